/-! WAY: the queue of situations; the class's side -/
abbrev WQ : Type := Nat × (Nat → Nat × Int64 × Option Nat) × Option Nat × Bool
def dup (X : WQ) (a : Nat) (s : Int64) : Option Nat := ff (fun j => decide ((X.2.1 j).1 = a ∧ (X.2.1 j).2.1 = s)) X.1
def meet (sh : Nat → Int64 → Bool) (a : Nat) (s : Int64) (fr : Option Nat) (X : WQ) : WQ :=
  if X.2.2.1 = none ∧ X.2.2.2 = false then (if dup X a s = none then (if X.1 = 400 then (X.1, X.2.1, none, true) else (X.1 + 1, (fun j => if j = X.1 then (a, s, fr) else X.2.1 j), (if sh a s = true then some X.1 else none), false)) else X) else X
section MEET
variable {sh : Nat → Int64 → Bool} {a : Nat} {s : Int64} {fr : Option Nat} {X : WQ}
theorem meet_off (h : ¬ (X.2.2.1 = none ∧ X.2.2.2 = false)) : meet sh a s fr X = X := if_neg h
theorem meet_dup (h0 : X.2.2.1 = none ∧ X.2.2.2 = false) {j : Nat} (hj : j < X.1) (h1 : (X.2.1 j).1 = a) (h2 : (X.2.1 j).2.1 = s) : meet sh a s fr X = X := by
  unfold meet
  rw [if_pos h0, if_neg]
  intro z
  have := ff_none z j hj
  rw [decide_eq_true ⟨h1, h2⟩] at this
  cases this
theorem dup_no (hno : ∀ j, j < X.1 → (X.2.1 j).1 = a → (X.2.1 j).2.1 ≠ s) : dup X a s = none := ff_no (fun j hj => decide_eq_false (fun z => hno j hj z.1 z.2))
theorem meet_full (h0 : X.2.2.1 = none ∧ X.2.2.2 = false) (hno : ∀ j, j < X.1 → (X.2.1 j).1 = a → (X.2.1 j).2.1 ≠ s) (h4 : X.1 = 400) : meet sh a s fr X = (X.1, X.2.1, none, true) := by
  unfold meet
  rw [if_pos h0, if_pos (dup_no hno), if_pos h4]
theorem meet_add (h0 : X.2.2.1 = none ∧ X.2.2.2 = false) (hno : ∀ j, j < X.1 → (X.2.1 j).1 = a → (X.2.1 j).2.1 ≠ s) (h4 : X.1 ≠ 400) : meet sh a s fr X = (X.1 + 1, (fun j => if j = X.1 then (a, s, fr) else X.2.1 j), (if sh a s = true then some X.1 else none), false) := by
  unfold meet
  rw [if_pos h0, if_pos (dup_no hno), if_neg h4]
/-- what a meeting is, by cases -/
theorem meet_cs : meet sh a s fr X = X ∨ ((X.2.2.1 = none ∧ X.2.2.2 = false) ∧ meet sh a s fr X = (X.1, X.2.1, none, true)) ∨ ((X.2.2.1 = none ∧ X.2.2.2 = false) ∧ X.1 ≠ 400 ∧ meet sh a s fr X = (X.1 + 1, (fun j => if j = X.1 then (a, s, fr) else X.2.1 j), (if sh a s = true then some X.1 else none), false)) := by
  unfold meet
  by_cases h0 : X.2.2.1 = none ∧ X.2.2.2 = false
  · rw [if_pos h0]
    by_cases h1 : dup X a s = none
    · rw [if_pos h1]
      by_cases h2 : X.1 = 400
      · rw [if_pos h2]
        exact Or.inr (Or.inl ⟨h0, rfl⟩)
      · rw [if_neg h2]
        exact Or.inr (Or.inr ⟨h0, h2, rfl⟩)
    · rw [if_neg h1]
      exact Or.inl rfl
  · rw [if_neg h0]
    exact Or.inl rfl
theorem meet_keep : X.1 ≤ (meet sh a s fr X).1 ∧ ∀ j, j < X.1 → (meet sh a s fr X).2.1 j = X.2.1 j := by
  rcases meet_cs (sh := sh) (a := a) (s := s) (fr := fr) (X := X) with h | ⟨-, h⟩ | ⟨-, -, h⟩
  · rw [h]
    exact ⟨Nat.le_refl _, fun j hj => rfl⟩
  · rw [h]
    exact ⟨Nat.le_refl _, fun j hj => rfl⟩
  · rw [h]
    exact ⟨Nat.le_succ _, fun j hj => if_neg (by omega)⟩
end MEET
/-- the last place below n where A is a -/
def lst (A : Nat → Nat) (a : Nat) : Nat → Option Nat
  | 0 => none
  | n + 1 => if A n = a then some n else lst A a n
theorem lst_some {A : Nat → Nat} {a p : Nat} : ∀ {n : Nat}, lst A a n = some p → p < n ∧ A p = a ∧ ∀ j, p < j → j < n → A j ≠ a
  | 0, h => by cases h
  | n + 1, h => by
    unfold lst at h
    by_cases e : A n = a
    · rw [if_pos e] at h
      cases h
      exact ⟨by omega, e, fun j h1 h2 => by omega⟩
    · rw [if_neg e] at h
      obtain ⟨h1, h2, h3⟩ := lst_some h
      refine ⟨by omega, h2, fun j g1 g2 => ?_⟩
      by_cases ej : j = n
      · rw [ej]
        exact e
      · exact h3 j g1 (by omega)
theorem lst_none {A : Nat → Nat} {a : Nat} : ∀ {n : Nat}, lst A a n = none → ∀ j, j < n → A j ≠ a
  | 0, _, j, hj => by omega
  | n + 1, h, j, hj => by
    unfold lst at h
    by_cases e : A n = a
    · rw [if_pos e] at h
      cases h
    · rw [if_neg e] at h
      by_cases ej : j = n
      · rw [ej]
        exact e
      · exact lst_none h j (by omega)
theorem lst_cg {A B : Nat → Nat} {a : Nat} : ∀ {n : Nat}, (∀ j, j < n → A j = B j) → lst A a n = lst B a n
  | 0, _ => rfl
  | n + 1, h => by
    unfold lst
    rw [h n (by omega), lst_cg (fun j hj => h j (by omega))]
/-- the class holds a queue -/
def QC (c : cS) (X : WQ) : Prop := (X.1 ≤ 400 ∧ ∀ p, X.2.2.1 = some p → p < X.1) ∧ c.1 150 12 = nI X.1 ∧ c.1 150 14 = (if X.2.2.2 = true then -2 else oI X.2.2.1) ∧ (∀ j, j < X.1 → (X.2.1 j).1 < 40 ∧ c.1 153 j = nI (X.2.1 j).1 ∧ c.2 154 j = (X.2.1 j).2.1 ∧ c.1 155 j = oI (X.2.1 j).2.2 ∧ c.1 156 j = oI (lst (fun i => (X.2.1 i).1) (X.2.1 j).1 j)) ∧ ∀ a, a < 40 → c.1 157 a = oI (lst (fun i => (X.2.1 i).1) a X.1)
def qYc (a i : Nat) : Bool := decide ((a = 150 ∧ (i = 12 ∨ i = 14)) ∨ (153 ≤ a ∧ a ≤ 157))
theorem nC_Yc : nC qYc := ⟨fun a i h1 h2 h3 => decide_eq_false (by omega), fun i h => decide_eq_false (by omega)⟩
theorem FC_Yc {c d m u : cS} {o : Nat} (h : FC c m u o) (hd : sx qYc c d) : FC d m u o ∧ ∀ p, TM m d p o = TM m c p o := FC_sx h hd nC_Yc (fun i => decide_eq_false (by omega)) (fun i => decide_eq_false (by omega)) (fun i => decide_eq_false (by omega)) rfl
theorem e214 {n o M i k a : Nat} {s : Int64} {fr : Option Nat} {c m u : cS} {X : WQ} {sh : Nat → Int64 → Bool} (hn : 1000 ≤ n) (h : FC c m u o) (hM : isMt m M) (hi : i < acn m M) (hk : k < wnt m (40 * M + i)) (h13 : c.1 150 13 = nI (M * 160 + i * 4 + k)) (hQ : QC c X) (ha : a < 40) (hs : a = i → RCH m M i ∧ WFs (eln m o) (lcn m M) (dpn m (40 * M + i)) s) (hsh : sh a s = decide (a = i ∧ mBb m o (nbl s (wts m (40 * M + i) k)) (TM m c (wtp m M (40 * M + i) k) o) = false)) : wp (d_214 n (nI a) s (oI fr) c) (fun d => QC d (meet sh a s fr X) ∧ sx qYc c d) := by
  have hQ' := hQ
  obtain ⟨⟨q1, q0⟩, q2, q3, q4, q5⟩ := hQ
  unfold d_214
  by_cases hx : X.2.2.1 = none ∧ X.2.2.2 = false
  · have h14 : c.1 150 14 = -1 := by
      rw [q3, hx.2, if_neg (by decide), hx.1]
      rfl
    refine wpt h14 (wpt (by simp (disch := first | omega | decide) only [↓neg1, nlit, rI, rL, rI2, rL1, nI_add, pk_mul, sbT, dvT, nmd, ixT, ↓ibT, ltT, ltF, leT, leF, eqT, eqF, nM_ltT, nM_ltF, nM_leT, nM_leF, nM_eqF, nM_eqF', nbT0, nbT1, oI_s, oI_n, natF, natT, nltT, nltF, nleT, nleF, ↓reduceIte, lgc, not_true_eq_false, not_false_eq_true, or_false, false_or, or_true, true_or, and_true, true_and, and_false, false_and, ne_eq, eq_self, or_self, and_self]) (wpl ?_))
    rw [ix_n (by omega), q5 a ha]
    refine wpc (K' := fun r : Unit ⊕ Unit => (r = .inl () ∧ ∀ j, j < X.1 → (X.2.1 j).1 = a → (X.2.1 j).2.1 ≠ s) ∨ (r = .inr () ∧ ∃ j, j < X.1 ∧ (X.2.1 j).1 = a ∧ (X.2.1 j).2.1 = s)) (whl_cnt (fun t (st : Int32 × Int32) => st.2 = nI t ∧ ((st.1 = nM ∧ ∀ j, j < X.1 → (X.2.1 j).1 = a → (X.2.1 j).2.1 ≠ s) ∨ ∃ p, st.1 = nI p ∧ p + t < X.1 ∧ (X.2.1 p).1 = a ∧ ∀ j, p < j → j < X.1 → (X.2.1 j).1 = a → (X.2.1 j).2.1 ≠ s)) 400 ?_ ?_ (by omega) ⟨rfl, ?_⟩) ?_
    · rintro t ⟨p0, t0⟩ ht ⟨g1, g2⟩
      dsimp only at g1 g2
      subst g1
      rcases g2 with ⟨rfl, g⟩ | ⟨p, rfl, p1, p2, p3⟩
      · dsimp only
        refine wpf (by simp (disch := first | omega | decide) only [↓neg1, nlit, rI, rL, rI2, rL1, nI_add, pk_mul, sbT, dvT, nmd, ixT, ↓ibT, ltT, ltF, leT, leF, eqT, eqF, nM_ltT, nM_ltF, nM_leT, nM_leF, nM_eqF, nM_eqF', nbT0, nbT1, oI_s, oI_n, natF, natT, nltT, nltF, nleT, nleF, ↓reduceIte, lgc, not_true_eq_false, not_false_eq_true, or_false, false_or, or_true, true_or, and_true, true_and, and_false, false_and, ne_eq, eq_self, or_self, and_self]) (wpt (by simp (disch := first | omega | decide) only [↓neg1, nlit, rI, rL, rI2, rL1, nI_add, pk_mul, sbT, dvT, nmd, ixT, ↓ibT, ltT, ltF, leT, leF, eqT, eqF, nM_ltT, nM_ltF, nM_leT, nM_leF, nM_eqF, nM_eqF', nbT0, nbT1, oI_s, oI_n, natF, natT, nltT, nltF, nleT, nleF, ↓reduceIte, lgc, not_true_eq_false, not_false_eq_true, or_false, false_or, or_true, true_or, and_true, true_and, and_false, false_and, ne_eq, eq_self, or_self, and_self]) ?_)
        exact Or.inl ⟨rfl, g⟩
      · dsimp only
        obtain ⟨-, -, y3, -, y5⟩ := q4 p (by omega)
        refine wpf (by simp (disch := first | omega | decide) only [↓neg1, nlit, rI, rL, rI2, rL1, nI_add, pk_mul, sbT, dvT, nmd, ixT, ↓ibT, ltT, ltF, leT, leF, eqT, eqF, nM_ltT, nM_ltF, nM_leT, nM_leF, nM_eqF, nM_eqF', nbT0, nbT1, oI_s, oI_n, natF, natT, nltT, nltF, nleT, nleF, ↓reduceIte, lgc, not_true_eq_false, not_false_eq_true, or_false, false_or, or_true, true_or, and_true, true_and, and_false, false_and, ne_eq, eq_self, or_self, and_self]) (wpf (by simp (disch := first | omega | decide) only [↓neg1, nlit, rI, rL, rI2, rL1, nI_add, pk_mul, sbT, dvT, nmd, ixT, ↓ibT, ltT, ltF, leT, leF, eqT, eqF, nM_ltT, nM_ltF, nM_leT, nM_leF, nM_eqF, nM_eqF', nbT0, nbT1, oI_s, oI_n, natF, natT, nltT, nltF, nleT, nleF, ↓reduceIte, lgc, not_true_eq_false, not_false_eq_true, or_false, false_or, or_true, true_or, and_true, true_and, and_false, false_and, ne_eq, eq_self, or_self, and_self]) (wpt (by simp (disch := first | omega | decide) only [↓neg1, nlit, rI, rL, rI2, rL1, nI_add, pk_mul, sbT, dvT, nmd, ixT, ↓ibT, ltT, ltF, leT, leF, eqT, eqF, nM_ltT, nM_ltF, nM_leT, nM_leF, nM_eqF, nM_eqF', nbT0, nbT1, oI_s, oI_n, natF, natT, nltT, nltF, nleT, nleF, ↓reduceIte, lgc, not_true_eq_false, not_false_eq_true, or_false, false_or, or_true, true_or, and_true, true_and, and_false, false_and, ne_eq, eq_self, or_self, and_self]) ?_))
        rw [ix_n (by omega), y3]
        by_cases e : (X.2.1 p).2.1 = s
        · refine wpt (by simp (disch := first | omega | decide) only [↓neg1, nlit, rI, rL, rI2, rL1, nI_add, pk_mul, sbT, dvT, nmd, ixT, ↓ibT, ltT, ltF, leT, leF, eqT, eqF, nM_ltT, nM_ltF, nM_leT, nM_leF, nM_eqF, nM_eqF', nbT0, nbT1, oI_s, oI_n, natF, natT, nltT, nltF, nleT, nleF, ↓reduceIte, lgc, not_true_eq_false, not_false_eq_true, or_false, false_or, or_true, true_or, and_true, true_and, and_false, false_and, ne_eq, eq_self, or_self, and_self, e]) ?_
          exact Or.inr ⟨rfl, p, by omega, p2, e⟩
        · refine wpf (by simp (disch := first | omega | decide) only [↓neg1, nlit, rI, rL, rI2, rL1, nI_add, pk_mul, sbT, dvT, nmd, ixT, ↓ibT, ltT, ltF, leT, leF, eqT, eqF, nM_ltT, nM_ltF, nM_leT, nM_leF, nM_eqF, nM_eqF', nbT0, nbT1, oI_s, oI_n, natF, natT, nltT, nltF, nleT, nleF, ↓reduceIte, lgc, not_true_eq_false, not_false_eq_true, or_false, false_or, or_true, true_or, and_true, true_and, and_false, false_and, ne_eq, eq_self, or_self, and_self, e]) (wpt (by simp (disch := first | omega | decide) only [↓neg1, nlit, rI, rL, rI2, rL1, nI_add, pk_mul, sbT, dvT, nmd, ixT, ↓ibT, ltT, ltF, leT, leF, eqT, eqF, nM_ltT, nM_ltF, nM_leT, nM_leF, nM_eqF, nM_eqF', nbT0, nbT1, oI_s, oI_n, natF, natT, nltT, nltF, nleT, nleF, ↓reduceIte, lgc, not_true_eq_false, not_false_eq_true, or_false, false_or, or_true, true_or, and_true, true_and, and_false, false_and, ne_eq, eq_self, or_self, and_self]) ?_)
          rw [y5, p2]
          refine wpl (wpl ⟨nI_1 _, ?_⟩)
          dsimp only
          cases hl : lst (fun i => (X.2.1 i).1) a p with
          | none =>
            refine Or.inl ⟨rfl, fun j hj hja => ?_⟩
            by_cases e1 : j < p
            · exact absurd hja (lst_none hl j e1)
            · by_cases e2 : j = p
              · rw [e2]
                exact e
              · exact p3 j (by omega) hj hja
          | some p' =>
            obtain ⟨l1, l2, l3⟩ := lst_some hl
            refine Or.inr ⟨p', rfl, by omega, l2, fun j h1 hj hja => ?_⟩
            by_cases e1 : j < p
            · exact absurd hja (l3 j h1 e1)
            · by_cases e2 : j = p
              · rw [e2]
                exact e
              · exact p3 j (by omega) hj hja
    · rintro ⟨p0, t0⟩ ⟨g1, g2⟩
      dsimp only at g1 g2
      subst g1
      dsimp only
      refine wpt (by simp (disch := first | omega | decide) only [↓neg1, nlit, rI, rL, rI2, rL1, nI_add, pk_mul, sbT, dvT, nmd, ixT, ↓ibT, ltT, ltF, leT, leF, eqT, eqF, nM_ltT, nM_ltF, nM_leT, nM_leF, nM_eqF, nM_eqF', nbT0, nbT1, oI_s, oI_n, natF, natT, nltT, nltF, nleT, nleF, ↓reduceIte, lgc, not_true_eq_false, not_false_eq_true, or_false, false_or, or_true, true_or, and_true, true_and, and_false, false_and, ne_eq, eq_self, or_self, and_self]) ?_
      rcases g2 with ⟨-, g⟩ | ⟨p, -, p1, -⟩
      · exact Or.inl ⟨rfl, g⟩
      · omega
    · cases hl : lst (fun i => (X.2.1 i).1) a X.1 with
      | none => exact Or.inl ⟨rfl, fun j hj hja => absurd hja (lst_none hl j hj)⟩
      | some p =>
        obtain ⟨l1, l2, l3⟩ := lst_some hl
        exact Or.inr ⟨p, rfl, by omega, l2, fun j h1 hj hja => absurd hja (l3 j h1 hj)⟩
    · rintro r (⟨rfl, hno⟩ | ⟨rfl, j, hj, j1, j2⟩)
      · refine wpSl ?_
        by_cases e4 : X.1 = 400
        · refine wpf (by rw [q2, e4]; decide) (wpl ?_)
          rw [meet_full hx hno e4]
          refine ⟨⟨⟨q1, fun p hp => by cases hp⟩, ?_, ?_, fun j hj => ?_, fun b hb => ?_⟩, sx_pI sx_rfl rfl⟩
          · rw [rI, if_neg (by omega)]
            exact q2
          · rw [rI, if_pos ⟨rfl, rfl⟩]
            rfl
          · rw [rI, if_neg (by omega), rI, if_neg (by omega), rI, if_neg (by omega)]
            exact q4 j hj
          · rw [rI, if_neg (by omega)]
            exact q5 b hb
        · refine wpt (by rw [q2]; simp (disch := first | omega | decide) only [↓neg1, nlit, rI, rL, rI2, rL1, nI_add, pk_mul, sbT, dvT, nmd, ixT, ↓ibT, ltT, ltF, leT, leF, eqT, eqF, nM_ltT, nM_ltF, nM_leT, nM_leF, nM_eqF, nM_eqF', nbT0, nbT1, oI_s, oI_n, natF, natT, nltT, nltF, nleT, nleF, ↓reduceIte, lgc, not_true_eq_false, not_false_eq_true, or_false, false_or, or_true, true_or, and_true, true_and, and_false, false_and, ne_eq, eq_self, or_self, and_self]) (wpt (by rw [q2]; simp (disch := first | omega | decide) only [↓neg1, nlit, rI, rL, rI2, rL1, nI_add, pk_mul, sbT, dvT, nmd, ixT, ↓ibT, ltT, ltF, leT, leF, eqT, eqF, nM_ltT, nM_ltF, nM_leT, nM_leF, nM_eqF, nM_eqF', nbT0, nbT1, oI_s, oI_n, natF, natT, nltT, nltF, nleT, nleF, ↓reduceIte, lgc, not_true_eq_false, not_false_eq_true, or_false, false_or, or_true, true_or, and_true, true_and, and_false, false_and, ne_eq, eq_self, or_self, and_self]) ?_)
          rw [q2, ix_n (by omega)]
          refine wpl ?_
          generalize e1 : pI c 153 X.1 (nI a) = c1
          have k1 : c1.1 150 12 = nI X.1 := by
            rw [← e1, rI, if_neg (by omega)]
            exact q2
          refine wpt (by rw [k1]; simp (disch := first | omega | decide) only [↓neg1, nlit, rI, rL, rI2, rL1, nI_add, pk_mul, sbT, dvT, nmd, ixT, ↓ibT, ltT, ltF, leT, leF, eqT, eqF, nM_ltT, nM_ltF, nM_leT, nM_leF, nM_eqF, nM_eqF', nbT0, nbT1, oI_s, oI_n, natF, natT, nltT, nltF, nleT, nleF, ↓reduceIte, lgc, not_true_eq_false, not_false_eq_true, or_false, false_or, or_true, true_or, and_true, true_and, and_false, false_and, ne_eq, eq_self, or_self, and_self]) ?_
          rw [k1, ix_n (by omega)]
          refine wpl ?_
          generalize e2 : pL c1 154 X.1 s = c2
          have k2 : c2.1 150 12 = nI X.1 := by
            rw [← e2]
            exact k1
          refine wpt (by rw [k2]; simp (disch := first | omega | decide) only [↓neg1, nlit, rI, rL, rI2, rL1, nI_add, pk_mul, sbT, dvT, nmd, ixT, ↓ibT, ltT, ltF, leT, leF, eqT, eqF, nM_ltT, nM_ltF, nM_leT, nM_leF, nM_eqF, nM_eqF', nbT0, nbT1, oI_s, oI_n, natF, natT, nltT, nltF, nleT, nleF, ↓reduceIte, lgc, not_true_eq_false, not_false_eq_true, or_false, false_or, or_true, true_or, and_true, true_and, and_false, false_and, ne_eq, eq_self, or_self, and_self]) ?_
          rw [k2, ix_n (by omega)]
          refine wpl ?_
          generalize e3 : pI c2 155 X.1 (oI fr) = c3
          have k3 : c3.1 150 12 = nI X.1 := by
            rw [← e3, rI, if_neg (by omega)]
            exact k2
          have k3' : c3.1 157 a = oI (lst (fun i => (X.2.1 i).1) a X.1) := by
            rw [← e3, rI, if_neg (by omega), ← e2]
            show c1.1 157 a = _
            rw [← e1, rI, if_neg (by omega)]
            exact q5 a ha
          refine wpt (by simp (disch := first | omega | decide) only [↓neg1, nlit, rI, rL, rI2, rL1, nI_add, pk_mul, sbT, dvT, nmd, ixT, ↓ibT, ltT, ltF, leT, leF, eqT, eqF, nM_ltT, nM_ltF, nM_leT, nM_leF, nM_eqF, nM_eqF', nbT0, nbT1, oI_s, oI_n, natF, natT, nltT, nltF, nleT, nleF, ↓reduceIte, lgc, not_true_eq_false, not_false_eq_true, or_false, false_or, or_true, true_or, and_true, true_and, and_false, false_and, ne_eq, eq_self, or_self, and_self]) (wpt (by rw [k3]; simp (disch := first | omega | decide) only [↓neg1, nlit, rI, rL, rI2, rL1, nI_add, pk_mul, sbT, dvT, nmd, ixT, ↓ibT, ltT, ltF, leT, leF, eqT, eqF, nM_ltT, nM_ltF, nM_leT, nM_leF, nM_eqF, nM_eqF', nbT0, nbT1, oI_s, oI_n, natF, natT, nltT, nltF, nleT, nleF, ↓reduceIte, lgc, not_true_eq_false, not_false_eq_true, or_false, false_or, or_true, true_or, and_true, true_and, and_false, false_and, ne_eq, eq_self, or_self, and_self]) ?_)
          rw [k3, ix_n (by omega), k3']
          refine wpl ?_
          generalize e4 : pI c3 156 X.1 (oI (lst (fun i => (X.2.1 i).1) a X.1)) = c4
          have k4 : c4.1 150 12 = nI X.1 := by
            rw [← e4, rI, if_neg (by omega)]
            exact k3
          refine wpt (by simp (disch := first | omega | decide) only [↓neg1, nlit, rI, rL, rI2, rL1, nI_add, pk_mul, sbT, dvT, nmd, ixT, ↓ibT, ltT, ltF, leT, leF, eqT, eqF, nM_ltT, nM_ltF, nM_leT, nM_leF, nM_eqF, nM_eqF', nbT0, nbT1, oI_s, oI_n, natF, natT, nltT, nltF, nleT, nleF, ↓reduceIte, lgc, not_true_eq_false, not_false_eq_true, or_false, false_or, or_true, true_or, and_true, true_and, and_false, false_and, ne_eq, eq_self, or_self, and_self]) ?_
          rw [k4]
          refine wpl ?_
          generalize e5 : pI c4 157 a (nI X.1) = c5
          have hsx : sx qYc c c5 := by
            rw [← e5, ← e4, ← e3, ← e2, ← e1]
            exact sx_pI (sx_pI (sx_pI (sx_pL (sx_pI sx_rfl (decide_eq_true (by omega))) (decide_eq_true (by omega))) (decide_eq_true (by omega))) (decide_eq_true (by omega))) (decide_eq_true (by omega))
          obtain ⟨hFC5, hTM5⟩ := FC_Yc h hsx
          have k5 : c5.1 150 12 = nI X.1 := by
            rw [← e5, rI, if_neg (by omega)]
            exact k4
          have k6 : c5.1 150 14 = -1 := by
            rw [← e5, rI, if_neg (by omega), ← e4, rI, if_neg (by omega), ← e3, rI, if_neg (by omega), ← e2]
            show c1.1 150 14 = _
            rw [← e1, rI, if_neg (by omega)]
            exact h14
          have f153 : ∀ j, c5.1 153 j = if j = X.1 then nI a else c.1 153 j := by
            intro j
            rw [← e5, rI, if_neg (by omega), ← e4, rI, if_neg (by omega), ← e3, rI, if_neg (by omega), ← e2]
            show c1.1 153 j = _
            rw [← e1, rI]
            by_cases z : j = X.1
            · rw [if_pos ⟨rfl, z⟩, if_pos z]
            · rw [if_neg (fun y => z y.2), if_neg z]
          have f154 : ∀ j, c5.2 154 j = if j = X.1 then s else c.2 154 j := by
            intro j
            rw [← e5, ← e4, ← e3, ← e2]
            show (pL c1 154 X.1 s).2 154 j = _
            rw [rL]
            by_cases z : j = X.1
            · rw [if_pos ⟨rfl, z⟩, if_pos z]
            · rw [if_neg (fun y => z y.2), if_neg z, ← e1]
              rfl
          have f155 : ∀ j, c5.1 155 j = if j = X.1 then oI fr else c.1 155 j := by
            intro j
            rw [← e5, rI, if_neg (by omega), ← e4, rI, if_neg (by omega), ← e3, rI]
            by_cases z : j = X.1
            · rw [if_pos ⟨rfl, z⟩, if_pos z]
            · rw [if_neg (fun y => z y.2), if_neg z, ← e2]
              show c1.1 155 j = _
              rw [← e1, rI, if_neg (by omega)]
          have f156 : ∀ j, c5.1 156 j = if j = X.1 then oI (lst (fun i => (X.2.1 i).1) a X.1) else c.1 156 j := by
            intro j
            rw [← e5, rI, if_neg (by omega), ← e4, rI]
            by_cases z : j = X.1
            · rw [if_pos ⟨rfl, z⟩, if_pos z]
            · rw [if_neg (fun y => z y.2), if_neg z, ← e3, rI, if_neg (by omega), ← e2]
              show c1.1 156 j = _
              rw [← e1, rI, if_neg (by omega)]
          have f157 : ∀ b, c5.1 157 b = if b = a then nI X.1 else c.1 157 b := by
            intro j
            rw [← e5, rI]
            by_cases z : j = a
            · rw [if_pos ⟨rfl, z⟩, if_pos z]
            · rw [if_neg (fun y => z y.2), if_neg z, ← e4, rI, if_neg (by omega), ← e3, rI, if_neg (by omega), ← e2]
              show c1.1 157 j = _
              rw [← e1, rI, if_neg (by omega)]
          have fin : ∀ (d : cS) (fo : Option Nat), (∀ p, fo = some p → p = X.1) → d.1 150 12 = nI (X.1 + 1) → d.1 150 14 = oI fo → (∀ b, b ≠ 150 → d.1 b = c5.1 b) → d.2 = c5.2 → QC d (X.1 + 1, (fun j => if j = X.1 then (a, s, fr) else X.2.1 j), fo, false) := by
            intro d fo d0 d1 d2 d3 d4
            have Y0 : (fun j => if j = X.1 then (a, s, fr) else X.2.1 j) X.1 = (a, s, fr) := if_pos rfl
            have Y1 : ∀ j, j ≠ X.1 → (fun j => if j = X.1 then (a, s, fr) else X.2.1 j) j = X.2.1 j := fun j hj => if_neg hj
            generalize (fun j => if j = X.1 then (a, s, fr) else X.2.1 j) = Y at Y0 Y1
            have hcg : ∀ b t, t ≤ X.1 → lst (fun i => (Y i).1) b t = lst (fun i => (X.2.1 i).1) b t := fun b t ht => lst_cg (fun j hj => by
              show (Y j).1 = (X.2.1 j).1
              rw [Y1 j (by omega)])
            refine ⟨⟨by show X.1 + 1 ≤ 400; omega, fun p hp => by have := d0 p hp; show p < X.1 + 1; omega⟩, d1, d2, fun j hj => ?_, fun b hb => ?_⟩
            · have hj : j < X.1 + 1 := hj
              show (Y j).1 < 40 ∧ d.1 153 j = nI (Y j).1 ∧ d.2 154 j = (Y j).2.1 ∧ d.1 155 j = oI (Y j).2.2 ∧ d.1 156 j = oI (lst (fun i => (Y i).1) (Y j).1 j)
              rw [d3 153 (by decide), d3 155 (by decide), d3 156 (by decide), d4, f153, f154, f155, f156]
              by_cases z : j = X.1
              · rw [if_pos z, if_pos z, if_pos z, if_pos z, z, Y0, hcg _ _ (Nat.le_refl _)]
                exact ⟨ha, rfl, rfl, rfl, rfl⟩
              · rw [if_neg z, if_neg z, if_neg z, if_neg z, Y1 j z, hcg _ _ (by omega)]
                exact q4 j (by omega)
            · show d.1 157 b = oI (lst (fun i => (Y i).1) b (X.1 + 1))
              rw [d3 157 (by decide), f157]
              unfold lst
              by_cases z : b = a
              · rw [if_pos z, if_pos (by show (Y X.1).1 = b; rw [Y0, z])]
                rfl
              · rw [if_neg z, if_neg (by show ¬ (Y X.1).1 = b; rw [Y0]; exact fun y => z y.symm), hcg _ _ (Nat.le_refl _)]
                exact q5 b hb
          rw [meet_add hx hno (by assumption), hsh]
          refine wpe (e215 (k := k) hFC5 hM hi hk ((hsx.1 150 13 rfl).trans h13) ha hs) (wpj ?_)
          rw [hTM5]
          by_cases hb : a = i ∧ mBb m o (nbl s (wts m (40 * M + i) k)) (TM m c (wtp m M (40 * M + i) k) o) = false
          · rw [if_pos hb, if_pos (decide_eq_true hb)]
            refine wpf (by decide) (wpl (wpl ?_))
            refine ⟨fin _ _ (fun p hp => (Option.some.inj hp).symm) ?_ ?_ (fun b hb => ?_) rfl, sx_pI (sx_pI hsx rfl) rfl⟩
            · rw [rI, if_pos ⟨rfl, rfl⟩, rI, if_neg (by omega), k5]
              exact nI_1 _
            · rw [rI, if_neg (by omega), rI, if_pos ⟨rfl, rfl⟩, k5]
              rfl
            · funext j
              rw [rI, if_neg (by omega), rI, if_neg (by omega)]
          · rw [if_neg hb, decide_eq_false hb]
            refine wpt rfl (wpl ?_)
            refine ⟨fin _ none (fun p hp => by cases hp) ?_ ?_ (fun b hb => ?_) rfl, sx_pI hsx rfl⟩
            · rw [rI, if_pos ⟨rfl, rfl⟩, k5]
              exact nI_1 _
            · rw [rI, if_neg (by omega)]
              exact k6
            · funext j
              rw [rI, if_neg (by omega)]
      · refine wpSr ?_
        rw [meet_dup hx hj j1 j2]
        exact ⟨hQ', sx_rfl⟩
  · rw [meet_off hx]
    refine wpf (fun z => hx ?_) ⟨hQ', sx_rfl⟩
    rw [q3] at z
    by_cases e : X.2.2.2 = true
    · rw [if_pos e] at z
      exact absurd z (by decide)
    · rw [if_neg e] at z
      refine ⟨?_, by simpa using e⟩
      cases hf : X.2.2.1 with
      | none => rfl
      | some p =>
        have hp := q0 p hf
        rw [hf] at z
        have z : nI p = nM := z
        rw [nM_eqF (by omega)] at z
        exact z.elim
