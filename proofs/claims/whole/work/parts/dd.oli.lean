/-! READING an ORDER: the reference settles it, whole -/
section OLI
variable {n m a b k o N : Nat} {c d u w : cS} {R W : Nat → Nat → Bool}
theorem ci_eq {x y : Nat} (hb : b < 12) (hy : y < 12) : ci o a b = ci o x y ↔ a = x ∧ b = y := by
  unfold ci
  omega
theorem ci_lt (ha : a < 12) (hb : b < 12) : 144 * o ≤ ci o a b ∧ ci o a b < 144 * o + 144 := by
  unfold ci
  omega
theorem BLW_set {v : Nat → Nat → Bool} {x y : Nat} (hN : N ≤ 12) (hx : x < N) (hy : y < N) (h : ∀ a b, a < N → b < N → (a = x ∧ b = y → v a b = true) ∧ (¬ (a = x ∧ b = y) → u.1 184 (ci o a b) = bI (v a b))) : BLW (pI u 184 (ci o x y) (nI 1)) o N v := fun a b ha hb => by
  obtain ⟨h1, h2⟩ := h a b ha hb
  rw [rI]
  by_cases e : a = x ∧ b = y
  · rw [if_pos ⟨rfl, (ci_eq (by omega) (by omega)).mpr e⟩, h1 e]
    rfl
  · rw [if_neg (fun z => e ((ci_eq (by omega) (by omega)).mp z.2))]
    exact h2 e
/-- in the middle of closing -/
def mid (R : Nat → Nat → Bool) (k j i a b : Nat) : Bool := if a < j ∨ (a = j ∧ b < i) then wcl R (k + 1) a b else wcl R k a b
theorem mid_col {j i : Nat} : mid R k j i a k = wcl R k a k := by
  unfold mid
  split
  · exact wcl_col
  · rfl
theorem mid_row {j i : Nat} : mid R k j i k b = wcl R k k b := by
  unfold mid
  split
  · exact wcl_row
  · rfl
theorem cl_r (hn : 100 ≤ n) (ho : o < 4) (hN : N ≤ 12) (h : BLW u o N R) : wp (whl (R := (cS)) (fun s6 : Int32 × cS =>
    if nI N ≤ s6.1 then
      some (.inr s6.2)
    else
      Option.bind (whl (R := (cS)) (fun s8 : Int32 × cS =>
        if nI N ≤ s8.1 then
          some (.inr s8.2)
        else
          Option.bind (whl (R := (cS)) (fun s10 : Int32 × cS =>
            if nI N ≤ s10.1 then
              some (.inr s10.2)
            else
              Option.bind (d_387 n (nI o) s8.1 s6.1 s10.2) (fun v11 =>
              jn (fun p12 : cS =>
                lt (s10.1 + 1 : Int32) (fun v14 =>
                some (.inl (v14, p12))))
              (fun j69 =>
              if v11 = 0 then
                j69 s10.2
              else
                Option.bind (d_387 n (nI o) s6.1 s10.1 s10.2) (fun v16 =>
                if v16 = 0 then
                  j69 s10.2
                else
                  Option.bind (d_385 n (nI o) s8.1 s10.1) (fun v17 =>
                  if ib v17 576 then
                  lt (pI s10.2 184 (ix v17) (vp_nar .boolean 1)) (fun c19 =>
                  j69 c19)
                  else none))))) n (0, s8.2))
          (fun x21 : cS =>
            lt (s8.1 + 1 : Int32) (fun v23 =>
            some (.inl (v23, x21))))) n (0, s6.2))
      (fun x25 : cS =>
        lt (s6.1 + 1 : Int32) (fun v27 =>
        some (.inl (v27, x25))))) n (0, u)) (fun d => BLW d o N (wcl R N) ∧ sx (q184 o) u d) := by
  refine whl_cnt (fun k (st : Int32 × cS) => st.1 = nI k ∧ BLW st.2 o N (wcl R k) ∧ sx (q184 o) u st.2) N ?_ ?_ (by omega) ⟨rfl, h, sx_rfl⟩
  · rintro k ⟨k0, w⟩ hk ⟨g1, g2, g3⟩
    dsimp only at g1 g2 g3
    subst g1
    dsimp only
    refine wpf (by simp (disch := first | omega | decide) only [↓neg1, nlit, rI, rL, rI2, rL1, nI_add, pk_mul, sbT, dvT, nmd, ixT, ↓ibT, ltT, ltF, leT, leF, eqT, eqF, nM_ltT, nM_ltF, nM_leT, nM_leF, nM_eqF, nM_eqF', nbT0, nbT1, oI_s, oI_n, natF, natT, nltT, nltF, nleT, nleF, ↓reduceIte, lgc, not_true_eq_false, not_false_eq_true, or_false, false_or, or_true, true_or, and_true, true_and, and_false, false_and, ne_eq, eq_self, or_self, and_self]) ?_
    refine wpc (K' := fun d : cS => BLW d o N (wcl R (k + 1)) ∧ sx (q184 o) u d) (whl_cnt (fun j (st : Int32 × cS) => st.1 = nI j ∧ BLW st.2 o N (mid R k j 0) ∧ sx (q184 o) u st.2) N ?_ ?_ (by omega) ⟨rfl, fun a b ha hb => ?_, g3⟩) (fun x hx => wpl ⟨nI_1 k, hx.1, hx.2⟩)
    · rintro j ⟨j0, v⟩ hj ⟨y1, y2, y3⟩
      dsimp only at y1 y2 y3
      subst y1
      dsimp only
      refine wpf (by simp (disch := first | omega | decide) only [↓neg1, nlit, rI, rL, rI2, rL1, nI_add, pk_mul, sbT, dvT, nmd, ixT, ↓ibT, ltT, ltF, leT, leF, eqT, eqF, nM_ltT, nM_ltF, nM_leT, nM_leF, nM_eqF, nM_eqF', nbT0, nbT1, oI_s, oI_n, natF, natT, nltT, nltF, nleT, nleF, ↓reduceIte, lgc, not_true_eq_false, not_false_eq_true, or_false, false_or, or_true, true_or, and_true, true_and, and_false, false_and, ne_eq, eq_self, or_self, and_self]) ?_
      refine wpc (K' := fun d : cS => BLW d o N (mid R k (j + 1) 0) ∧ sx (q184 o) u d) (whl_cnt (fun i (st : Int32 × cS) => st.1 = nI i ∧ BLW st.2 o N (mid R k j i) ∧ sx (q184 o) u st.2) N ?_ ?_ (by omega) ⟨rfl, y2, y3⟩) (fun x hx => wpl ⟨nI_1 j, hx.1, hx.2⟩)
      · rintro i ⟨i0, z⟩ hi ⟨z1, z2, z3⟩
        dsimp only at z1 z2 z3
        subst z1
        dsimp only
        refine wpf (by simp (disch := first | omega | decide) only [↓neg1, nlit, rI, rL, rI2, rL1, nI_add, pk_mul, sbT, dvT, nmd, ixT, ↓ibT, ltT, ltF, leT, leF, eqT, eqF, nM_ltT, nM_ltF, nM_leT, nM_leF, nM_eqF, nM_eqF', nbT0, nbT1, oI_s, oI_n, natF, natT, nltT, nltF, nleT, nleF, ↓reduceIte, lgc, not_true_eq_false, not_false_eq_true, or_false, false_or, or_true, true_or, and_true, true_and, and_false, false_and, ne_eq, eq_self, or_self, and_self]) (wpe (e387w ho hN hj hk z2) (wpjQ (fun x : cS => BLW x o N (mid R k j (i + 1)) ∧ sx (q184 o) u x) (fun x hx => wpl ⟨nI_1 i, hx.1, hx.2⟩) ?_))
        intro Q' k' hk'
        rw [mid_col]
        have hsame : (wcl R k j k && wcl R k k i) = false → BLW z o N (mid R k j (i + 1)) := fun hz a b ha hb => by
          rw [z2 a b ha hb]
          unfold mid
          by_cases e : a = j ∧ b = i
          · obtain ⟨rfl, rfl⟩ := e
            rw [if_neg (by omega), if_pos (by omega)]
            show bI (wcl R k a b) = bI (wcl R k a b || (wcl R k a k && wcl R k k b))
            rw [hz, Bool.or_false]
          · by_cases e2 : a < j ∨ (a = j ∧ b < i)
            · rw [if_pos e2, if_pos (by omega)]
            · rw [if_neg e2, if_neg (by omega)]
        cases e1 : wcl R k j k with
        | false => exact wpt rfl (hk' _ ⟨hsame (by rw [e1]; rfl), z3⟩)
        | true =>
          refine wpf (by decide) (wpe (e387w ho hN hk hi z2) ?_)
          rw [mid_row]
          cases e2 : wcl R k k i with
          | false => exact wpt rfl (hk' _ ⟨hsame (by rw [e1, e2]; rfl), z3⟩)
          | true =>
            have hci := ci_lt (o := o) (show j < 12 by omega) (show i < 12 by omega)
            unfold ci at hci
            refine wpf (by decide) (wpe e385 (wpt (by simp (disch := first | omega | decide) only [↓neg1, nlit, rI, rL, rI2, rL1, nI_add, pk_mul, sbT, dvT, nmd, ixT, ↓ibT, ltT, ltF, leT, leF, eqT, eqF, nM_ltT, nM_ltF, nM_leT, nM_leF, nM_eqF, nM_eqF', nbT0, nbT1, oI_s, oI_n, natF, natT, nltT, nltF, nleT, nleF, ↓reduceIte, lgc, not_true_eq_false, not_false_eq_true, or_false, false_or, or_true, true_or, and_true, true_and, and_false, false_and, ne_eq, eq_self, or_self, and_self]) ?_))
            rw [ix_n (by omega), show vp_nar .boolean 1 = nI 1 by decide]
            refine wpl (hk' _ ⟨BLW_set (x := j) (y := i) hN hj hi (fun a b ha hb => ⟨?_, fun e => ?_⟩), sx_pI z3 (decide_eq_true (by omega))⟩)
            · rintro ⟨rfl, rfl⟩
              unfold mid
              rw [if_pos (by omega)]
              exact wcl_s.mpr (Or.inr ⟨e1, e2⟩)
            · rw [z2 a b ha hb]
              unfold mid
              by_cases e2 : a < j ∨ (a = j ∧ b < i)
              · rw [if_pos e2, if_pos (by omega)]
              · rw [if_neg e2, if_neg (by omega)]
      · rintro ⟨i0, z⟩ ⟨z1, z2, z3⟩
        dsimp only at z1 z2 z3
        subst z1
        dsimp only
        refine wpt (by simp (disch := first | omega | decide) only [↓neg1, nlit, rI, rL, rI2, rL1, nI_add, pk_mul, sbT, dvT, nmd, ixT, ↓ibT, ltT, ltF, leT, leF, eqT, eqF, nM_ltT, nM_ltF, nM_leT, nM_leF, nM_eqF, nM_eqF', nbT0, nbT1, oI_s, oI_n, natF, natT, nltT, nltF, nleT, nleF, ↓reduceIte, lgc, not_true_eq_false, not_false_eq_true, or_false, false_or, or_true, true_or, and_true, true_and, and_false, false_and, ne_eq, eq_self, or_self, and_self]) ⟨fun a b ha hb => ?_, z3⟩
        rw [z2 a b ha hb]
        unfold mid
        by_cases e2 : a < j ∨ (a = j ∧ b < N)
        · rw [if_pos e2, if_pos (by omega)]
        · rw [if_neg e2, if_neg (by omega)]
    · rintro ⟨j0, v⟩ ⟨y1, y2, y3⟩
      dsimp only at y1 y2 y3
      subst y1
      dsimp only
      refine wpt (by simp (disch := first | omega | decide) only [↓neg1, nlit, rI, rL, rI2, rL1, nI_add, pk_mul, sbT, dvT, nmd, ixT, ↓ibT, ltT, ltF, leT, leF, eqT, eqF, nM_ltT, nM_ltF, nM_leT, nM_leF, nM_eqF, nM_eqF', nbT0, nbT1, oI_s, oI_n, natF, natT, nltT, nltF, nleT, nleF, ↓reduceIte, lgc, not_true_eq_false, not_false_eq_true, or_false, false_or, or_true, true_or, and_true, true_and, and_false, false_and, ne_eq, eq_self, or_self, and_self]) ⟨fun a b ha hb => ?_, y3⟩
      rw [y2 a b ha hb]
      unfold mid
      rw [if_pos (by omega)]
    · rw [g2 a b ha hb]
      unfold mid
      rw [if_neg (by omega)]
  · rintro ⟨k0, w⟩ ⟨g1, g2, g3⟩
    dsimp only at g1 g2 g3
    subst g1
    dsimp only
    exact wpt (by simp (disch := first | omega | decide) only [↓neg1, nlit, rI, rL, rI2, rL1, nI_add, pk_mul, sbT, dvT, nmd, ixT, ↓ibT, ltT, ltF, leT, leF, eqT, eqF, nM_ltT, nM_ltF, nM_leT, nM_leF, nM_eqF, nM_eqF', nbT0, nbT1, oI_s, oI_n, natF, natT, nltT, nltF, nleT, nleF, ↓reduceIte, lgc, not_true_eq_false, not_false_eq_true, or_false, false_or, or_true, true_or, and_true, true_and, and_false, false_and, ne_eq, eq_self, or_self, and_self]) ⟨g2, g3⟩
/-- tables of joins and meets of the reference -/
def RTB (u : cS) (o N : Nat) (W : Nat → Nat → Bool) (S : Nat → Nat → Prop) : Prop := ∀ a b, a < N → b < N → S a b → gdP W N a b = true ∧ u.1 185 (ci o a b) = oI (lbO W N a b) ∧ u.1 186 (ci o a b) = oI (lbO (trn W) N a b)
def topP (W : Nat → Nat → Bool) (N e : Nat) : Bool := allN (fun d => W d e) N
def OLP (u : cS) (o N : Nat) (W : Nat → Nat → Bool) (r : Int32 × cS) : Prop := sx (qOL o) u r.2 ∧ r.1 = bI (isOr W N) ∧ (isOr W N = true → BLW r.2 o N W ∧ RTB r.2 o N W (fun _ _ => True) ∧ (∀ e, e < N → topP W N e = true → r.2.1 187 o = nI e) ∧ (∀ e, e < N → topP (trn W) N e = true → r.2.1 188 o = nI e))
theorem gd_bad {j : Nat} (hk : k < N) (hj : j < N) (z : gdP W N k j = false) : isOr W N = false := by
  cases hi : isOr W N with
  | false => rfl
  | true =>
    have := allN_iff.mp (allN_iff.mp hi k hk) j hj
    rw [z] at this
    cases this
theorem e389 (hn : 100 ≤ n) (ho : o < 4) (hN : N ≤ 12) (h2 : u.1 182 o = nI N) (h : BLW u o N R) : wp (d_389 n (nI o) u) (OLP u o N (wcl R N)) := by
  unfold d_389
  refine wpt (by simp (disch := first | omega | decide) only [↓neg1, nlit, rI, rL, rI2, rL1, nI_add, pk_mul, sbT, dvT, nmd, ixT, ↓ibT, ltT, ltF, leT, leF, eqT, eqF, nM_ltT, nM_ltF, nM_leT, nM_leF, nM_eqF, nM_eqF', nbT0, nbT1, oI_s, oI_n, natF, natT, nltT, nltF, nleT, nleF, ↓reduceIte, lgc, not_true_eq_false, not_false_eq_true, or_false, false_or, or_true, true_or, and_true, true_and, and_false, false_and, ne_eq, eq_self, or_self, and_self]) ?_
  rw [ix_n (by omega), h2]
  refine wpl (wpc (cl_r hn ho hN h) (fun r1 hr1 => ?_))
  obtain ⟨r2, r3⟩ := hr1
  generalize wcl R N = W at *
  refine wpc (K' := fun x : Int32 × cS => x.1 = bI (isOr W N) ∧ sx (q186 o) r1 x.2 ∧ (isOr W N = true → RTB x.2 o N W (fun _ _ => True))) (whl_cnt (fun k (st : Int32 × Int32 × cS) => sx (q186 o) r1 st.2.2 ∧ ((st.1 = nI 1 ∧ st.2.1 = nI k ∧ RTB st.2.2 o N W (fun a _ => a < k)) ∨ (st.1 = nI 0 ∧ isOr W N = false))) N ?_ ?_ (by omega) ⟨sx_rfl, Or.inl ⟨rfl, rfl, fun a b _ _ z => absurd z (Nat.not_lt_zero _)⟩⟩) (fun x hx => ?_)
  · rintro k ⟨g, k0, w⟩ hk ⟨g1, g2⟩
    dsimp only at g1 g2
    dsimp only
    rcases g2 with ⟨g2, g3, g4⟩ | ⟨g2, g3⟩
    · subst g2 g3
      refine wpf (by simp (disch := first | omega | decide) only [↓neg1, nlit, rI, rL, rI2, rL1, nI_add, pk_mul, sbT, dvT, nmd, ixT, ↓ibT, ltT, ltF, leT, leF, eqT, eqF, nM_ltT, nM_ltF, nM_leT, nM_leF, nM_eqF, nM_eqF', nbT0, nbT1, oI_s, oI_n, natF, natT, nltT, nltF, nleT, nleF, ↓reduceIte, lgc, not_true_eq_false, not_false_eq_true, or_false, false_or, or_true, true_or, and_true, true_and, and_false, false_and, ne_eq, eq_self, or_self, and_self]) (wpf (by decide) ?_)
      refine wpc (K' := fun x : Int32 × cS => sx (q186 o) r1 x.2 ∧ ((x.1 = nI 1 ∧ RTB x.2 o N W (fun a _ => a < k + 1)) ∨ (x.1 = nI 0 ∧ isOr W N = false))) (whl_cnt (fun j (st : Int32 × Int32 × cS) => sx (q186 o) r1 st.2.2 ∧ ((st.1 = nI 1 ∧ st.2.1 = nI j ∧ RTB st.2.2 o N W (fun a b => a < k ∨ (a = k ∧ b < j))) ∨ (st.1 = nI 0 ∧ isOr W N = false))) N ?_ ?_ (by omega) ⟨g1, Or.inl ⟨rfl, rfl, fun a b ha hb z => g4 a b ha hb (by omega)⟩⟩) (fun x hx => ?_)
      · rintro j ⟨h0, j0, v⟩ hj ⟨y1, y2⟩
        dsimp only at y1 y2
        dsimp only
        rcases y2 with ⟨y2, y3, y4⟩ | ⟨y2, y3⟩
        · subst y2 y3
          have vB := BLW_sx r2 y1 (fun j => decide_eq_false (by omega))
          have v2 : v.1 182 o = nI N := (y1.1 182 o (decide_eq_false (by omega))).trans ((r3.1 182 o (decide_eq_false (by omega))).trans h2)
          refine wpf (by simp (disch := first | omega | decide) only [↓neg1, nlit, rI, rL, rI2, rL1, nI_add, pk_mul, sbT, dvT, nmd, ixT, ↓ibT, ltT, ltF, leT, leF, eqT, eqF, nM_ltT, nM_ltF, nM_leT, nM_leF, nM_eqF, nM_eqF', nbT0, nbT1, oI_s, oI_n, natF, natT, nltT, nltF, nleT, nleF, ↓reduceIte, lgc, not_true_eq_false, not_false_eq_true, or_false, false_or, or_true, true_or, and_true, true_and, and_false, false_and, ne_eq, eq_self, or_self, and_self]) (wpf (by decide) (wpjQ (fun p : Int32 => p = bI (decide (k = j) || !(W k j) || !(W j k))) ?_ ?_))
          · rintro p rfl
            have hci := ci_lt (o := o) (show k < 12 by omega) (show j < 12 by omega)
            have e388u : d_388 n (nI o) (nI k) (nI j) 0 v = some (oI (lbO W N k j)) := e388 hn ho hN v2 hk hj (Or.inl ⟨rfl, fun x y hx hy => e387w ho hN hx hy vB⟩)
            have vB2 : BLW (pI v 185 (ci o k j) (oI (lbO W N k j))) o N W := BLW_sx vB (sx_pI (r := q186 o) sx_rfl (decide_eq_true (by omega))) (fun j => decide_eq_false (by omega))
            have v22 : (pI v 185 (ci o k j) (oI (lbO W N k j))).1 182 o = nI N := by
              rw [rI, if_neg (by omega)]
              exact v2
            have e388d : d_388 n (nI o) (nI k) (nI j) 1 (pI v 185 (ci o k j) (oI (lbO W N k j))) = some (oI (lbO (trn W) N k j)) := e388 hn ho hN v22 hk hj (Or.inr ⟨by decide, fun x y hx hy => e387w ho hN hy hx vB2⟩)
            have e385' : d_385 n (nI o) (nI k) (nI j) = some (nI (ci o k j)) := e385
            refine wpe e385' (wpe e388u (wpt (by simp (disch := first | omega | decide) only [↓neg1, nlit, rI, rL, rI2, rL1, nI_add, pk_mul, sbT, dvT, nmd, ixT, ↓ibT, ltT, ltF, leT, leF, eqT, eqF, nM_ltT, nM_ltF, nM_leT, nM_leF, nM_eqF, nM_eqF', nbT0, nbT1, oI_s, oI_n, natF, natT, nltT, nltF, nleT, nleF, ↓reduceIte, lgc, not_true_eq_false, not_false_eq_true, or_false, false_or, or_true, true_or, and_true, true_and, and_false, false_and, ne_eq, eq_self, or_self, and_self]) ?_))
            rw [ix_n (by omega)]
            refine wpl (wpe e385' (wpe e388d (wpt (by simp (disch := first | omega | decide) only [↓neg1, nlit, rI, rL, rI2, rL1, nI_add, pk_mul, sbT, dvT, nmd, ixT, ↓ibT, ltT, ltF, leT, leF, eqT, eqF, nM_ltT, nM_ltF, nM_leT, nM_leF, nM_eqF, nM_eqF', nbT0, nbT1, oI_s, oI_n, natF, natT, nltT, nltF, nleT, nleF, ↓reduceIte, lgc, not_true_eq_false, not_false_eq_true, or_false, false_or, or_true, true_or, and_true, true_and, and_false, false_and, ne_eq, eq_self, or_self, and_self]) ?_)))
            rw [ix_n (show ci o k j < 2147483648 by omega)]
            refine wpl ?_
            have x5 : (pI (pI v 185 (ci o k j) (oI (lbO W N k j))) 186 (ci o k j) (oI (lbO (trn W) N k j))).1 185 (ci o k j) = oI (lbO W N k j) := by
              rw [rI, if_neg (by omega), rI, if_pos ⟨rfl, rfl⟩]
            have x6 : (pI (pI v 185 (ci o k j) (oI (lbO W N k j))) 186 (ci o k j) (oI (lbO (trn W) N k j))).1 186 (ci o k j) = oI (lbO (trn W) N k j) := by
              rw [rI, if_pos ⟨rfl, rfl⟩]
            have sz : sx (q186 o) r1 (pI (pI v 185 (ci o k j) (oI (lbO W N k j))) 186 (ci o k j) (oI (lbO (trn W) N k j))) := sx_pI (sx_pI y1 (decide_eq_true (by omega))) (decide_eq_true (by omega))
            have hT : gdP W N k j = true → RTB (pI (pI v 185 (ci o k j) (oI (lbO W N k j))) 186 (ci o k j) (oI (lbO (trn W) N k j))) o N W (fun a b => a < k ∨ (a = k ∧ b < j + 1)) := fun hg a b ha hb z => by
              by_cases e : a = k ∧ b = j
              · obtain ⟨rfl, rfl⟩ := e
                exact ⟨hg, x5, x6⟩
              · have hne : ¬ ci o a b = ci o k j := fun z => e ((ci_eq (by omega) (by omega)).mp z)
                rw [rI, if_neg (by omega), rI, if_neg (fun z => hne z.2), rI, if_neg (fun z => hne z.2), rI, if_neg (by omega)]
                exact y4 a b ha hb (by omega)
            generalize pI (pI v 185 (ci o k j) (oI (lbO W N k j))) 186 (ci o k j) (oI (lbO (trn W) N k j)) = z at *
            refine wpjQ (fun p : Int32 => p = bI (gdP W N k j)) ?_ ?_
            · rintro p rfl
              refine wpl ⟨sz, ?_⟩
              cases hg : gdP W N k j with
              | true => exact Or.inl ⟨rfl, nI_1 j, hT hg⟩
              | false => exact Or.inr ⟨rfl, gd_bad hk hj hg⟩
            · intro Q' k' hk'
              refine wpj ?_
              cases hg1 : (decide (k = j) || !(W k j) || !(W j k)) with
              | false => exact wpt rfl (hk' 0 (by unfold gdP; rw [hg1]; rfl))
              | true =>
                refine wpf (by decide) (wpe e385' (wpt (by simp (disch := first | omega | decide) only [↓neg1, nlit, rI, rL, rI2, rL1, nI_add, pk_mul, sbT, dvT, nmd, ixT, ↓ibT, ltT, ltF, leT, leF, eqT, eqF, nM_ltT, nM_ltF, nM_leT, nM_leF, nM_eqF, nM_eqF', nbT0, nbT1, oI_s, oI_n, natF, natT, nltT, nltF, nleT, nleF, ↓reduceIte, lgc, not_true_eq_false, not_false_eq_true, or_false, false_or, or_true, true_or, and_true, true_and, and_false, false_and, ne_eq, eq_self, or_self, and_self]) ?_))
                rw [ix_n (by omega), x5]
                cases hu : lbO W N k j with
                | none => exact wpt (by decide) (hk' 0 (by unfold gdP; rw [hg1, hu]; rfl))
                | some ju =>
                  have hju := (ff_some hu).1
                  refine wpf (by rw [oI_s]; simp (disch := first | omega | decide) only [↓neg1, nlit, rI, rL, rI2, rL1, nI_add, pk_mul, sbT, dvT, nmd, ixT, ↓ibT, ltT, ltF, leT, leF, eqT, eqF, nM_ltT, nM_ltF, nM_leT, nM_leF, nM_eqF, nM_eqF', nbT0, nbT1, oI_s, oI_n, natF, natT, nltT, nltF, nleT, nleF, ↓reduceIte, lgc, not_true_eq_false, not_false_eq_true, or_false, false_or, or_true, true_or, and_true, true_and, and_false, false_and, ne_eq, eq_self, or_self, and_self]) (wpe e385' (wpt (by simp (disch := first | omega | decide) only [↓neg1, nlit, rI, rL, rI2, rL1, nI_add, pk_mul, sbT, dvT, nmd, ixT, ↓ibT, ltT, ltF, leT, leF, eqT, eqF, nM_ltT, nM_ltF, nM_leT, nM_leF, nM_eqF, nM_eqF', nbT0, nbT1, oI_s, oI_n, natF, natT, nltT, nltF, nleT, nleF, ↓reduceIte, lgc, not_true_eq_false, not_false_eq_true, or_false, false_or, or_true, true_or, and_true, true_and, and_false, false_and, ne_eq, eq_self, or_self, and_self]) ?_))
                  rw [ix_n (by omega), x6]
                  cases hd : lbO (trn W) N k j with
                  | none => exact wpt (by decide) (hk' 0 (by unfold gdP; rw [hg1, hu, hd]; rfl))
                  | some jd =>
                    have hjd := (ff_some hd).1
                    exact wpf (by rw [oI_s]; simp (disch := first | omega | decide) only [↓neg1, nlit, rI, rL, rI2, rL1, nI_add, pk_mul, sbT, dvT, nmd, ixT, ↓ibT, ltT, ltF, leT, leF, eqT, eqF, nM_ltT, nM_ltF, nM_leT, nM_leF, nM_eqF, nM_eqF', nbT0, nbT1, oI_s, oI_n, natF, natT, nltT, nltF, nleT, nleF, ↓reduceIte, lgc, not_true_eq_false, not_false_eq_true, or_false, false_or, or_true, true_or, and_true, true_and, and_false, false_and, ne_eq, eq_self, or_self, and_self]) (hk' 1 (by unfold gdP; rw [hg1, hu, hd]; rfl))
          · intro Q' k' hk'
            refine wpj ?_
            by_cases ekj : k = j
            · exact wpt (by rw [ekj]) (hk' 1 (by rw [decide_eq_true ekj]; rfl))
            · refine wpf (fun z => ekj ((nI_eq (by omega) (by omega)).mp z)) (wpe (e387w ho hN hk hj vB) ?_)
              cases e1 : W k j with
              | false => exact wpt rfl (hk' 1 (by rw [e1]; simp; rfl))
              | true =>
                refine wpf (by decide) (wpe (e387w ho hN hj hk vB) ?_)
                cases e2 : W j k with
                | false => exact wpt rfl (hk' 1 (by rw [e2]; simp; rfl))
                | true => exact wpf (by decide) (hk' 0 (by rw [e1, e2, decide_eq_false ekj]; rfl))
        · subst y2
          by_cases z : nI N ≤ j0
          · exact wpt z ⟨y1, Or.inr ⟨rfl, y3⟩⟩
          · exact wpf z (wpt rfl ⟨y1, Or.inr ⟨rfl, y3⟩⟩)
      · rintro ⟨h0, j0, v⟩ ⟨y1, y2⟩
        dsimp only at y1 y2
        dsimp only
        rcases y2 with ⟨y2, y3, y4⟩ | ⟨y2, y3⟩
        · subst y2 y3
          exact wpt (by simp (disch := first | omega | decide) only [↓neg1, nlit, rI, rL, rI2, rL1, nI_add, pk_mul, sbT, dvT, nmd, ixT, ↓ibT, ltT, ltF, leT, leF, eqT, eqF, nM_ltT, nM_ltF, nM_leT, nM_leF, nM_eqF, nM_eqF', nbT0, nbT1, oI_s, oI_n, natF, natT, nltT, nltF, nleT, nleF, ↓reduceIte, lgc, not_true_eq_false, not_false_eq_true, or_false, false_or, or_true, true_or, and_true, true_and, and_false, false_and, ne_eq, eq_self, or_self, and_self]) ⟨y1, Or.inl ⟨rfl, fun a b ha hb z => y4 a b ha hb (by omega)⟩⟩
        · subst y2
          by_cases z : nI N ≤ j0
          · exact wpt z ⟨y1, Or.inr ⟨rfl, y3⟩⟩
          · exact wpf z (wpt rfl ⟨y1, Or.inr ⟨rfl, y3⟩⟩)
      · obtain ⟨x1, x2⟩ := hx
        refine wpl ⟨x1, ?_⟩
        rcases x2 with ⟨x2, x3⟩ | x2
        · exact Or.inl ⟨x2, nI_1 k, x3⟩
        · exact Or.inr x2
    · subst g2
      by_cases z : nI N ≤ k0
      · exact wpt z ⟨by rw [g3]; rfl, g1, fun y => by rw [g3] at y; cases y⟩
      · exact wpf z (wpt rfl ⟨by rw [g3]; rfl, g1, fun y => by rw [g3] at y; cases y⟩)
  · rintro ⟨g, k0, w⟩ ⟨g1, g2⟩
    dsimp only at g1 g2
    dsimp only
    rcases g2 with ⟨g2, g3, g4⟩ | ⟨g2, g3⟩
    · subst g2 g3
      have hor : isOr W N = true := allN_iff.mpr (fun a ha => allN_iff.mpr (fun b hb => (g4 a b ha hb ha).1))
      exact wpt (by simp (disch := first | omega | decide) only [↓neg1, nlit, rI, rL, rI2, rL1, nI_add, pk_mul, sbT, dvT, nmd, ixT, ↓ibT, ltT, ltF, leT, leF, eqT, eqF, nM_ltT, nM_ltF, nM_leT, nM_leF, nM_eqF, nM_eqF', nbT0, nbT1, oI_s, oI_n, natF, natT, nltT, nltF, nleT, nleF, ↓reduceIte, lgc, not_true_eq_false, not_false_eq_true, or_false, false_or, or_true, true_or, and_true, true_and, and_false, false_and, ne_eq, eq_self, or_self, and_self]) ⟨by rw [hor]; rfl, g1, fun _ a b ha hb _ => g4 a b ha hb ha⟩
    · subst g2
      by_cases z : nI N ≤ k0
      · exact wpt z ⟨by rw [g3]; rfl, g1, fun y => by rw [g3] at y; cases y⟩
      · exact wpf z (wpt rfl ⟨by rw [g3]; rfl, g1, fun y => by rw [g3] at y; cases y⟩)
  · obtain ⟨g, x⟩ := x
    obtain ⟨x1, x2, x3⟩ := hx
    dsimp only at x1 x2 x3
    subst x1
    dsimp only
    have xB := BLW_sx r2 x2 (fun j => decide_eq_false (by omega))
    refine wpc (K' := fun d : cS => sx (q188 o) x d ∧ (isOr W N = true → (∀ e, e < N → topP W N e = true → d.1 187 o = nI e) ∧ (∀ e, e < N → topP (trn W) N e = true → d.1 188 o = nI e))) (whl_cnt (fun k (st : Int32 × cS) => st.1 = nI k ∧ sx (q188 o) x st.2 ∧ (isOr W N = true → (∀ e, e < k → topP W N e = true → st.2.1 187 o = nI e) ∧ (∀ e, e < k → topP (trn W) N e = true → st.2.1 188 o = nI e))) N ?_ ?_ (by omega) ⟨rfl, sx_rfl, fun _ => ⟨fun e he => absurd he (Nat.not_lt_zero _), fun e he => absurd he (Nat.not_lt_zero _)⟩⟩) (fun d hd => ?_)
    · rintro k ⟨k0, w⟩ hk ⟨g1, g2, g3⟩
      dsimp only at g1 g2 g3
      subst g1
      dsimp only
      have wB := BLW_sx xB g2 (fun j => decide_eq_false (by omega))
      refine wpf (by simp (disch := first | omega | decide) only [↓neg1, nlit, rI, rL, rI2, rL1, nI_add, pk_mul, sbT, dvT, nmd, ixT, ↓ibT, ltT, ltF, leT, leF, eqT, eqF, nM_ltT, nM_ltF, nM_leT, nM_leF, nM_eqF, nM_eqF', nbT0, nbT1, oI_s, oI_n, natF, natT, nltT, nltF, nleT, nleF, ↓reduceIte, lgc, not_true_eq_false, not_false_eq_true, or_false, false_or, or_true, true_or, and_true, true_and, and_false, false_and, ne_eq, eq_self, or_self, and_self]) ?_
      refine wpc (K' := fun y : Int32 × Int32 => y = (bI (topP W N k), bI (topP (trn W) N k))) (whl_cnt (fun j (st : Int32 × Int32 × Int32) => st = (bI (allN (fun d => W d k) j), bI (allN (fun d => trn W d k) j), nI j)) N ?_ ?_ (by omega) rfl) (fun y hy => ?_)
      · rintro j st hj rfl
        dsimp only
        refine wpf (by simp (disch := first | omega | decide) only [↓neg1, nlit, rI, rL, rI2, rL1, nI_add, pk_mul, sbT, dvT, nmd, ixT, ↓ibT, ltT, ltF, leT, leF, eqT, eqF, nM_ltT, nM_ltF, nM_leT, nM_leF, nM_eqF, nM_eqF', nbT0, nbT1, oI_s, oI_n, natF, natT, nltT, nltF, nleT, nleF, ↓reduceIte, lgc, not_true_eq_false, not_false_eq_true, or_false, false_or, or_true, true_or, and_true, true_and, and_false, false_and, ne_eq, eq_self, or_self, and_self]) (wpjQ (fun p : Int32 => p = bI (allN (fun d => W d k) (j + 1))) ?_ ?_)
        · rintro p rfl
          refine wpjQ (fun p : Int32 => p = bI (allN (fun d => trn W d k) (j + 1))) ?_ ?_
          · rintro p rfl
            refine wpl ?_
            rw [nI_1]
            exact rfl
          · intro Q' k' hk'
            have hs : allN (fun d => trn W d k) (j + 1) = (allN (fun d => trn W d k) j && W k j) := rfl
            refine wpj ?_
            cases e : allN (fun d => trn W d k) j with
            | false => exact wpt rfl (hk' 0 (by rw [hs, e]; rfl))
            | true =>
              refine wpf (by decide) (wpe (e387w ho hN hk hj wB) ?_)
              cases e2 : W k j with
              | false => exact wpt rfl (hk' 0 (by rw [hs, e, e2]; rfl))
              | true => exact wpf (by decide) (hk' 1 (by rw [hs, e, e2]; rfl))
        · intro Q' k' hk'
          have hs : allN (fun d => W d k) (j + 1) = (allN (fun d => W d k) j && W j k) := rfl
          refine wpj ?_
          cases e : allN (fun d => W d k) j with
          | false => exact wpt rfl (hk' 0 (by rw [hs, e]; rfl))
          | true =>
            refine wpf (by decide) (wpe (e387w ho hN hj hk wB) ?_)
            cases e2 : W j k with
            | false => exact wpt rfl (hk' 0 (by rw [hs, e, e2]; rfl))
            | true => exact wpf (by decide) (hk' 1 (by rw [hs, e, e2]; rfl))
      · rintro st rfl
        exact wpt (by dsimp only; simp (disch := first | omega | decide) only [↓neg1, nlit, rI, rL, rI2, rL1, nI_add, pk_mul, sbT, dvT, nmd, ixT, ↓ibT, ltT, ltF, leT, leF, eqT, eqF, nM_ltT, nM_ltF, nM_leT, nM_leF, nM_eqF, nM_eqF', nbT0, nbT1, oI_s, oI_n, natF, natT, nltT, nltF, nleT, nleF, ↓reduceIte, lgc, not_true_eq_false, not_false_eq_true, or_false, false_or, or_true, true_or, and_true, true_and, and_false, false_and, ne_eq, eq_self, or_self, and_self]) rfl
      · subst hy
        dsimp only
        refine wpjQ (fun z : cS => sx (q188 o) x z ∧ z.1 188 o = w.1 188 o ∧ (isOr W N = true → ∀ e, e < k + 1 → topP W N e = true → z.1 187 o = nI e)) ?_ ?_
        · rintro z ⟨z1, z2, z3⟩
          refine wpjQ (fun z : cS => sx (q188 o) x z ∧ (isOr W N = true → (∀ e, e < k + 1 → topP W N e = true → z.1 187 o = nI e) ∧ (∀ e, e < k + 1 → topP (trn W) N e = true → z.1 188 o = nI e))) (fun z hz => wpl ⟨nI_1 k, hz.1, hz.2⟩) ?_
          intro Q' k' hk'
          cases e : topP (trn W) N k with
          | false =>
            refine wpt rfl (hk' _ ⟨z1, fun hor => ⟨z3 hor, fun q hq hq2 => ?_⟩⟩)
            by_cases e2 : q = k
            · rw [e2, e] at hq2
              cases hq2
            · rw [z2]
              exact (g3 hor).2 q (by omega) hq2
          | true =>
            refine wpf (by decide) (wpt (by simp (disch := first | omega | decide) only [↓neg1, nlit, rI, rL, rI2, rL1, nI_add, pk_mul, sbT, dvT, nmd, ixT, ↓ibT, ltT, ltF, leT, leF, eqT, eqF, nM_ltT, nM_ltF, nM_leT, nM_leF, nM_eqF, nM_eqF', nbT0, nbT1, oI_s, oI_n, natF, natT, nltT, nltF, nleT, nleF, ↓reduceIte, lgc, not_true_eq_false, not_false_eq_true, or_false, false_or, or_true, true_or, and_true, true_and, and_false, false_and, ne_eq, eq_self, or_self, and_self]) ?_)
            refine wpl (hk' _ ⟨sx_pI z1 (decide_eq_true (by omega)), fun hor => ⟨fun q hq hq2 => ?_, fun q hq hq2 => ?_⟩⟩)
            · rw [rI, if_neg (by omega)]
              exact z3 hor q hq hq2
            · rw [rI, if_pos ⟨rfl, rfl⟩]
              have h1 := allN_iff.mp e q (by omega)
              have h2 := allN_iff.mp hq2 k hk
              have := (isOr_at hor (show q < N by omega) hk).1 h2 h1
              rw [this]
        · intro Q' k' hk'
          cases e : topP W N k with
          | false =>
            refine wpt rfl (hk' _ ⟨g2, rfl, fun hor q hq hq2 => ?_⟩)
            by_cases e2 : q = k
            · rw [e2, e] at hq2
              cases hq2
            · exact (g3 hor).1 q (by omega) hq2
          | true =>
            refine wpf (by decide) (wpt (by simp (disch := first | omega | decide) only [↓neg1, nlit, rI, rL, rI2, rL1, nI_add, pk_mul, sbT, dvT, nmd, ixT, ↓ibT, ltT, ltF, leT, leF, eqT, eqF, nM_ltT, nM_ltF, nM_leT, nM_leF, nM_eqF, nM_eqF', nbT0, nbT1, oI_s, oI_n, natF, natT, nltT, nltF, nleT, nleF, ↓reduceIte, lgc, not_true_eq_false, not_false_eq_true, or_false, false_or, or_true, true_or, and_true, true_and, and_false, false_and, ne_eq, eq_self, or_self, and_self]) ?_)
            refine wpl (hk' _ ⟨sx_pI g2 (decide_eq_true (by omega)), ?_, fun hor q hq hq2 => ?_⟩)
            · rw [rI, if_neg (by omega)]
            · rw [rI, if_pos ⟨rfl, rfl⟩]
              have h1 := allN_iff.mp e q (by omega)
              have h2 := allN_iff.mp hq2 k hk
              have := (isOr_at hor (show q < N by omega) hk).1 h1 h2
              rw [this]
    · rintro ⟨k0, w⟩ ⟨g1, g2, g3⟩
      dsimp only at g1 g2 g3
      subst g1
      dsimp only
      exact wpt (by simp (disch := first | omega | decide) only [↓neg1, nlit, rI, rL, rI2, rL1, nI_add, pk_mul, sbT, dvT, nmd, ixT, ↓ibT, ltT, ltF, leT, leF, eqT, eqF, nM_ltT, nM_ltF, nM_leT, nM_leF, nM_eqF, nM_eqF', nbT0, nbT1, oI_s, oI_n, natF, natT, nltT, nltF, nleT, nleF, ↓reduceIte, lgc, not_true_eq_false, not_false_eq_true, or_false, false_or, or_true, true_or, and_true, true_and, and_false, false_and, ne_eq, eq_self, or_self, and_self]) ⟨g2, g3⟩
    · obtain ⟨d1, d2⟩ := hd
      have w1 : sx (qOL o) u r1 := sx_wide r3 (fun A j z => by
        have := of_decide_eq_false z
        exact decide_eq_false (by omega))
      have w2 : sx (qOL o) r1 x := sx_wide x2 (fun A j z => by
        have := of_decide_eq_false z
        exact decide_eq_false (by omega))
      have w3 : sx (qOL o) x d := sx_wide d1 (fun A j z => by
        have := of_decide_eq_false z
        exact decide_eq_false (by omega))
      refine wpt bI_nb ⟨sx_trans (sx_trans w1 w2) w3, rfl, fun hor => ⟨BLW_sx xB d1 (fun j => decide_eq_false (by omega)), fun a b ha hb z => ?_, (d2 hor).1, (d2 hor).2⟩⟩
      rw [d1.1 185 _ (decide_eq_false (by omega)), d1.1 186 _ (decide_eq_false (by omega))]
      exact x3 hor a b ha hb z
end OLI
