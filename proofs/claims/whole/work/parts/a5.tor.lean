/-! ORDERS told -/
theorem shl12 {j : Nat} (h : j < 12) : (1 : Int32) <<< (nI j &&& 31) = nI (2 ^ j) := by
  have : ∀ q : Fin 12, (1 : Int32) <<< (nI q.1 &&& 31) = nI (2 ^ q.1) := by decide +kernel
  exact this ⟨j, h⟩
/-- ELEMENTS next to each other -/
def nxB (m : cS) (o a b : Nat) : Bool := decide (a ≠ b) && mBb m o a b && (ff (fun e => decide (e ≠ a) && decide (e ≠ b) && mBb m o a e && mBb m o e b) (eln m o)).isNone
theorem nxB_t {m : cS} {o a b : Nat} : nxB m o a b = true ↔ a ≠ b ∧ mB m o a b ∧ ∀ e, e < eln m o → e ≠ a → e ≠ b → mB m o a e → ¬ mB m o e b := by
  unfold nxB
  rw [Bool.and_eq_true, Bool.and_eq_true, decide_eq_true_iff, mBb_t, Option.isNone_iff_eq_none]
  constructor
  · rintro ⟨⟨h1, h2⟩, h3⟩
    refine ⟨h1, h2, fun e he e1 e2 e3 e4 => ?_⟩
    have := ff_none h3 e he
    rw [decide_eq_true e1, decide_eq_true e2, mBb_t.mpr e3, mBb_t.mpr e4] at this
    cases this
  · rintro ⟨h1, h2, h3⟩
    refine ⟨⟨h1, h2⟩, ff_no (fun e he => ?_)⟩
    cases hx : (decide (e ≠ a) && decide (e ≠ b) && mBb m o a e && mBb m o e b) with
    | false => rfl
    | true =>
      rw [Bool.and_eq_true, Bool.and_eq_true, Bool.and_eq_true, decide_eq_true_iff, decide_eq_true_iff, mBb_t, mBb_t] at hx
      exact absurd hx.2 (h3 e he hx.1.1.1 hx.1.1.2 hx.1.2)
theorem e240 {n o a b : Nat} {c m : cS} (hO : OOS c m) (ho : o < ocn m) (ha : a < eln m o) (hb : b < eln m o) : d_240 n o (nI a) (nI b) c = some (if nxB m o a b = true then nI 1 else nI 0) := by
  have hRO := OOS_at hO ho
  have hel := OOS_el hO ho
  have hLA := hRO.1
  obtain ⟨u, u1, u2, u3⟩ := hRO.2.2.2.2.1 a ha
  obtain ⟨v, v1, v2, v3⟩ := hRO.2.2.2.2.2.1 b hb
  have h12 : (2 : Nat) ^ eln m o ≤ 2 ^ 12 := Nat.pow_le_pow_right (by decide) hel.2.1
  have hu : u < 4096 := by omega
  have hv : v < 4096 := by omega
  have h237 := e237 (n := n) (o := o) (a := a) (b := b) (u := u) (c := c) (by omega) (by omega) (by omega) u2
  unfold d_240
  refine eq_wp (wpj (wpj ?_))
  by_cases e : a = b
  · refine wpt (by rw [e]) (wpt (by decide) ?_)
    show (0 : Int32) = _
    rw [if_neg (fun z => (nxB_t.mp z).1 e)]
    rfl
  refine wpf (fun z => e ((nI_eq (by omega) (by omega)).mp z)) (wpe h237 ?_)
  by_cases hab : mB m o a b
  · rw [if_pos ((u3 b hb).mpr hab)]
    refine wpf (by decide) (wpt (by simp (disch := first | omega | decide) only [↓neg1, nlit, rI, rL, rI2, rL1, nI_add, pk_mul, sbT, dvT, nmd, ixT, ↓ibT, ltT, ltF, leT, leF, eqT, eqF, nM_ltT, nM_ltF, nM_leT, nM_leF, nM_eqF, nM_eqF', nbT0, nbT1, oI_s, oI_n, natF, natT, nltT, nltF, nleT, nleF, ↓reduceIte, lgc, not_true_eq_false, not_false_eq_true, or_false, false_or, or_true, true_or, and_true, true_and, and_false, false_and, ne_eq, eq_self, or_self, and_self]) (wpt (by simp (disch := first | omega | decide) only [↓neg1, nlit, rI, rL, rI2, rL1, nI_add, pk_mul, sbT, dvT, nmd, ixT, ↓ibT, ltT, ltF, leT, leF, eqT, eqF, nM_ltT, nM_ltF, nM_leT, nM_leF, nM_eqF, nM_eqF', nbT0, nbT1, oI_s, oI_n, natF, natT, nltT, nltF, nleT, nleF, ↓reduceIte, lgc, not_true_eq_false, not_false_eq_true, or_false, false_or, or_true, true_or, and_true, true_and, and_false, false_and, ne_eq, eq_self, or_self, and_self]) ?_))
    rw [ix_n (by omega), ix_n (by omega), u2, v2, nI_and, shl12 (by omega), shl12 (by omega), nI_or]
    have hl2 : 2 ^ a ||| 2 ^ b < 4096 := Nat.or_lt_two_pow (n := 12) (Nat.pow_lt_pow_right (by decide) (by omega)) (Nat.pow_lt_pow_right (by decide) (by omega))
    have hl1 : u &&& v < 4096 := Nat.lt_of_le_of_lt Nat.and_le_left hu
    have key : (u &&& v = 2 ^ a ||| 2 ^ b) ↔ nxB m o a b = true := by
      rw [nxB_t]
      constructor
      · intro h
        refine ⟨e, hab, fun x hx x1 x2 x3 x4 => ?_⟩
        have h1 := congrArg (fun z => z.testBit x) h
        simp only [Nat.testBit_and, Nat.testBit_or, Nat.testBit_two_pow] at h1
        rw [(u3 x hx).mpr x3, (v3 x hx).mpr x4, decide_eq_false (fun z => x1 z.symm), decide_eq_false (fun z => x2 z.symm)] at h1
        cases h1
      · rintro ⟨-, -, h⟩
        apply Nat.eq_of_testBit_eq
        intro x
        rw [Nat.testBit_and, Nat.testBit_or, Nat.testBit_two_pow, Nat.testBit_two_pow]
        by_cases hx : x < eln m o
        · by_cases x1 : x = a
          · subst x1
            rw [(u3 x hx).mpr (LA_refl hLA hx), (v3 x hx).mpr hab, decide_eq_true rfl]
            rfl
          · by_cases x2 : x = b
            · subst x2
              rw [(u3 x hx).mpr hab, (v3 x hx).mpr (LA_refl hLA hx), decide_eq_true rfl, decide_eq_false (fun z => x1 z.symm)]
              rfl
            · rw [decide_eq_false (fun z => x1 z.symm), decide_eq_false (fun z => x2 z.symm)]
              cases hU : u.testBit x with
              | false => rfl
              | true =>
                cases hV : v.testBit x with
                | false => rfl
                | true => exact absurd ((v3 x hx).mp hV) (h x hx x1 x2 ((u3 x hx).mp hU))
        · have : u.testBit x = false := Nat.testBit_lt_two_pow (Nat.lt_of_lt_of_le u1 (Nat.pow_le_pow_right (by decide) (by omega)))
          rw [this, decide_eq_false (by omega), decide_eq_false (by omega)]
          rfl
    by_cases hk : nxB m o a b = true
    · rw [key.mpr hk, if_pos hk]
      exact wpt rfl (wpt (by decide) rfl)
    · rw [if_neg hk]
      refine wpf (fun z => hk (key.mp ((nI_eq (by omega) (by omega)).mp z))) (wpt (by decide) rfl)
  · rw [if_neg (fun z => hab ((u3 b hb).mp z)), if_neg (fun z => hab (nxB_t.mp z).2.1)]
    exact wpt rfl (wpt (by decide) rfl)
theorem e387b {n o a b : Nat} {c m u : cS} (hA : AG m u) (hO : OOS c m) (ho : o < ocn m) (ha : a < eln m o) (hb : b < eln m o) : d_387 n (nI o) (nI a) (nI b) u = some (if mBb m o a b = true then nI 1 else nI 0) := by
  have hel := OOS_el hO ho
  have ho4 := hO.1
  have hnb := (OOS_at hO ho).1.2.2.1 a b ha hb
  have h184 : u.1 184 ((12 * o + a) * 12 + b) = m.1 184 ((12 * o + a) * 12 + b) := hA.1 184 _ rfl
  rw [e387 (by omega) (by omega) (by omega) (by rw [h184]; exact hnb), h184]
  congr 1
  rcases hnb with h | h
  · rw [h, if_neg (by rw [mBb_t]; unfold mB; rw [h]; decide)]
    rfl
  · rw [h, if_pos (mBb_t.mpr h)]
    rfl
theorem e443 {n o a b : Nat} {c m u : cS} (hn : 1000 ≤ n) (hA : AG m u) (hO : OOS c m) (ho : o < ocn m) (ha : a < eln m o) (hb : b < eln m o) : d_443 n (nI o) (nI a) (nI b) u = some (if nxB m o a b = true then nI 1 else nI 0) := by
  have hel := OOS_el hO ho
  have ho4 := hO.1
  have h182 : u.1 182 o = nI (eln m o) := (hA.1 182 _ rfl).trans hel.2.2.1
  unfold d_443
  refine eq_wp ?_
  have hzero : ¬ (a ≠ b ∧ mB m o a b) → nxB m o a b ≠ true := fun h z => h ⟨(nxB_t.mp z).1, (nxB_t.mp z).2.1⟩
  refine wpjQ (fun p : Int32 => (p = nI 1 ∧ a ≠ b ∧ mB m o a b) ∨ (p = nI 0 ∧ ¬ (a ≠ b ∧ mB m o a b))) ?_ ?_
  · intro p hp
    refine wpc (K' := fun r : Int32 => r = if nxB m o a b = true then nI 1 else nI 0) (whl_cnt (fun e (st : Int32 × Int32) => st.2 = nI e ∧ ((st.1 = nI 1 ∧ a ≠ b ∧ mB m o a b ∧ ∀ x, x < e → x ≠ a → x ≠ b → mB m o a x → ¬ mB m o x b) ∨ (st.1 = nI 0 ∧ nxB m o a b ≠ true))) (eln m o) ?_ ?_ (by omega) ⟨rfl, ?_⟩) ?_
    · rintro e ⟨f, e0⟩ he ⟨g1, g2⟩
      dsimp only at g1 g2
      subst g1
      dsimp only
      refine wpt (by simp (disch := first | omega | decide) only [↓neg1, nlit, rI, rL, rI2, rL1, nI_add, pk_mul, sbT, dvT, nmd, ixT, ↓ibT, ltT, ltF, leT, leF, eqT, eqF, nM_ltT, nM_ltF, nM_leT, nM_leF, nM_eqF, nM_eqF', nbT0, nbT1, oI_s, oI_n, natF, natT, nltT, nltF, nleT, nleF, ↓reduceIte, lgc, not_true_eq_false, not_false_eq_true, or_false, false_or, or_true, true_or, and_true, true_and, and_false, false_and, ne_eq, eq_self, or_self, and_self]) ?_
      try rw [ix_n (by omega)]
      rw [h182]
      refine wpf (by simp (disch := first | omega | decide) only [↓neg1, nlit, rI, rL, rI2, rL1, nI_add, pk_mul, sbT, dvT, nmd, ixT, ↓ibT, ltT, ltF, leT, leF, eqT, eqF, nM_ltT, nM_ltF, nM_leT, nM_leF, nM_eqF, nM_eqF', nbT0, nbT1, oI_s, oI_n, natF, natT, nltT, nltF, nleT, nleF, ↓reduceIte, lgc, not_true_eq_false, not_false_eq_true, or_false, false_or, or_true, true_or, and_true, true_and, and_false, false_and, ne_eq, eq_self, or_self, and_self]) ?_
      rcases g2 with ⟨rfl, g2, g3, g4⟩ | ⟨rfl, g2⟩
      · refine wpf (by decide) (wpj ?_)
        have ok : ∀ (P : Prop), (mB m o a e → mB m o e b → (e = a ∨ e = b)) → (nI e + 1 = nI (e + 1) ∧ ((nI 1 = nI 1 ∧ a ≠ b ∧ mB m o a b ∧ ∀ x, x < e + 1 → x ≠ a → x ≠ b → mB m o a x → ¬ mB m o x b) ∨ (nI 1 = nI 0 ∧ nxB m o a b ≠ true))) := by
          intro _ hh
          refine ⟨nI_1 _, Or.inl ⟨rfl, g2, g3, fun x hx x1 x2 x3 x4 => ?_⟩⟩
          by_cases ex : x = e
          · subst ex
            rcases hh x3 x4 with z | z
            · exact x1 z
            · exact x2 z
          · exact g4 x (by omega) x1 x2 x3 x4
        refine wpj ?_
        by_cases e1 : e = a
        · exact wpt (by rw [e1]) (wpl (ok True (fun _ _ => Or.inl e1)))
        refine wpf (fun z => e1 ((nI_eq (by omega) (by omega)).mp z)) ?_
        by_cases e2 : e = b
        · exact wpt (by rw [e2]) (wpl (ok True (fun _ _ => Or.inr e2)))
        refine wpf (fun z => e2 ((nI_eq (by omega) (by omega)).mp z)) (wpe (e387b hA hO ho ha he) ?_)
        by_cases h1 : mB m o a e
        · rw [if_pos (mBb_t.mpr h1)]
          refine wpf (by decide) (wpe (e387b hA hO ho he hb) ?_)
          by_cases h2 : mB m o e b
          · rw [if_pos (mBb_t.mpr h2)]
            exact wpf (by decide) (wpl ⟨nI_1 _, Or.inr ⟨rfl, fun z => (nxB_t.mp z).2.2 e he e1 e2 h1 h2⟩⟩)
          · rw [if_neg (fun z => h2 (mBb_t.mp z))]
            exact wpt rfl (wpl (ok True (fun _ z => absurd z h2)))
        · rw [if_neg (fun z => h1 (mBb_t.mp z))]
          exact wpt rfl (wpl (ok True (fun z _ => absurd z h1)))
      · refine wpt rfl ?_
        show nI 0 = _
        rw [if_neg g2]
    · rintro ⟨f, e0⟩ ⟨g1, g2⟩
      dsimp only at g1 g2
      subst g1
      dsimp only
      refine wpt (by simp (disch := first | omega | decide) only [↓neg1, nlit, rI, rL, rI2, rL1, nI_add, pk_mul, sbT, dvT, nmd, ixT, ↓ibT, ltT, ltF, leT, leF, eqT, eqF, nM_ltT, nM_ltF, nM_leT, nM_leF, nM_eqF, nM_eqF', nbT0, nbT1, oI_s, oI_n, natF, natT, nltT, nltF, nleT, nleF, ↓reduceIte, lgc, not_true_eq_false, not_false_eq_true, or_false, false_or, or_true, true_or, and_true, true_and, and_false, false_and, ne_eq, eq_self, or_self, and_self]) ?_
      try rw [ix_n (by omega)]
      rw [h182]
      refine wpt (by simp (disch := first | omega | decide) only [↓neg1, nlit, rI, rL, rI2, rL1, nI_add, pk_mul, sbT, dvT, nmd, ixT, ↓ibT, ltT, ltF, leT, leF, eqT, eqF, nM_ltT, nM_ltF, nM_leT, nM_leF, nM_eqF, nM_eqF', nbT0, nbT1, oI_s, oI_n, natF, natT, nltT, nltF, nleT, nleF, ↓reduceIte, lgc, not_true_eq_false, not_false_eq_true, or_false, false_or, or_true, true_or, and_true, true_and, and_false, false_and, ne_eq, eq_self, or_self, and_self]) ?_
      rcases g2 with ⟨rfl, g2, g3, g4⟩ | ⟨rfl, g2⟩
      · show nI 1 = _
        rw [if_pos (nxB_t.mpr ⟨g2, g3, g4⟩)]
      · show nI 0 = _
        rw [if_neg g2]
    · rcases hp with ⟨rfl, h1, h2⟩ | ⟨rfl, h1⟩
      · exact Or.inl ⟨rfl, h1, h2, fun x hx => by omega⟩
      · exact Or.inr ⟨rfl, hzero h1⟩
    · rintro r rfl
      refine wpt ?_ rfl
      by_cases e : nxB m o a b = true
      · rw [if_pos e]
        exact Or.inr rfl
      · rw [if_neg e]
        exact Or.inl rfl
  · intro Q' k' hk'
    refine wpj ?_
    by_cases e : a = b
    · exact wpt (by rw [e]) (hk' _ (Or.inr ⟨rfl, fun z => z.1 e⟩))
    refine wpf (fun z => e ((nI_eq (by omega) (by omega)).mp z)) (wpe (e387b hA hO ho ha hb) ?_)
    by_cases h1 : mB m o a b
    · rw [if_pos (mBb_t.mpr h1)]
      exact wpf (by decide) (hk' _ (Or.inl ⟨rfl, e, h1⟩))
    · rw [if_neg (fun z => h1 (mBb_t.mp z))]
      exact wpt rfl (hk' _ (Or.inr ⟨rfl, fun z => h1 z.2⟩))
/-- an ORDER in TOKENS -/
def elT (m : cS) (o : Nat) : Nat → List (List Nat)
  | 0 => []
  | e + 1 => elT m o e ++ [if e = 0 then [58] else [44], sg (m.2 183 (12 * o + e))]
def nxT (m : cS) (o a : Nat) : Nat → List (List Nat)
  | 0 => []
  | b + 1 => nxT m o a b ++ (if nxB m o a b = true then [[44], sg (m.2 183 (12 * o + a)), [60], sg (m.2 183 (12 * o + b))] else [])
def nxA (m : cS) (o : Nat) : Nat → List (List Nat)
  | 0 => []
  | a + 1 => nxA m o a ++ nxT m o a (eln m o)
def orT (m : cS) (o : Nat) : List (List Nat) := [wb 2] ++ ([sg (m.2 181 o)] ++ (elT m o (eln m o) ++ (nxA m o (eln m o) ++ [[59]])))
theorem e325 {n o : Nat} {c m : cS} {L : List Nat} (hn : 1000 ≤ n) (hW : WT c) (hO : OOS c m) (ho : o < ocn m) (h : OC c L) : wp (d_325 n o c) (fun d => OC d (puts L (orT m o)) ∧ sx qO c d) := by
  have hel := OOS_el hO ho
  have hRO := OOS_at hO ho
  have ho4 := hO.1
  have R1 : ∀ {y : cS}, sx qO c y → ∀ A i, A ≠ 172 → A ≠ 173 → y.1 A i = c.1 A i := fun hy A i h1 h2 => hy.1 A i (qO_no (by omega))
  have R2 : ∀ {y : cS}, sx qO c y → ∀ A i, A ≠ 172 → A ≠ 173 → y.2 A i = c.2 A i := fun hy A i h1 h2 => hy.2 A i (qO_no (by omega))
  have hoA : oA o + 5 < 100 := by
    unfold oA
    omega
  unfold orT
  rw [puts_app, puts_1, puts_app, puts_1, puts_app, puts_app, puts_1]
  unfold d_325
  refine wpc (e321 (i := 0) hn hW (by decide) h) (fun d1 h1 => ?_)
  rw [R2 h1.2 (oA o) 0 (by omega) (by omega), hRO.2.2.1]
  refine wpc (e320 hn h1.1) (fun d2 h2 => ?_)
  have s2 := sx_trans h1.2 h2.2
  have hO2 := h2.1
  generalize hL2 : put (put L (wb 2)) (sg (m.2 181 o)) = L2 at *
  refine wpc (K' := fun d : cS => OC d (puts L2 (elT m o (eln m o))) ∧ sx qO c d) (whl_cnt (fun e (st : Int32 × cS) => st.1 = nI e ∧ OC st.2 (puts L2 (elT m o e)) ∧ sx qO c st.2) (eln m o) ?_ ?_ (by omega) ⟨rfl, ?_, s2⟩) ?_
  · rintro e ⟨e0, w⟩ he ⟨g1, g2, g3⟩
    dsimp only at g1 g2 g3
    subst g1
    dsimp only
    rw [R1 g3 (oA o) 1 (by omega) (by omega), hel.2.2.2]
    refine wpf (by simp (disch := first | omega | decide) only [↓neg1, nlit, rI, rL, rI2, rL1, nI_add, pk_mul, sbT, dvT, nmd, ixT, ↓ibT, ltT, ltF, leT, leF, eqT, eqF, nM_ltT, nM_ltF, nM_leT, nM_leF, nM_eqF, nM_eqF', nbT0, nbT1, oI_s, oI_n, natF, natT, nltT, nltF, nleT, nleF, ↓reduceIte, lgc, not_true_eq_false, not_false_eq_true, or_false, false_or, or_true, true_or, and_true, true_and, and_false, false_and, ne_eq, eq_self, or_self, and_self]) ?_
    have het : elT m o (e + 1) = elT m o e ++ ([if e = 0 then [58] else [44]] ++ [sg (m.2 183 (12 * o + e))]) := rfl
    refine wpjQ (fun p : Int32 => ∃ b, p = nI b ∧ b < 256 ∧ (if e = 0 then [58] else [44]) = [b]) ?_ ?_
    · rintro p ⟨b, rfl, hb, hbe⟩
      refine wpc (e322 hb g2) (fun y1 f1 => wpt (by simp (disch := first | omega | decide) only [↓neg1, nlit, rI, rL, rI2, rL1, nI_add, pk_mul, sbT, dvT, nmd, ixT, ↓ibT, ltT, ltF, leT, leF, eqT, eqF, nM_ltT, nM_ltF, nM_leT, nM_leF, nM_eqF, nM_eqF', nbT0, nbT1, oI_s, oI_n, natF, natT, nltT, nltF, nleT, nleF, ↓reduceIte, lgc, not_true_eq_false, not_false_eq_true, or_false, false_or, or_true, true_or, and_true, true_and, and_false, false_and, ne_eq, eq_self, or_self, and_self]) ?_)
      have t1 := sx_trans g3 f1.2
      rw [ix_n (by omega), R2 t1 (oA o + 1) e (by omega) (by omega), hRO.2.2.2.1 e he]
      refine wpc (e320 hn f1.1) (fun y2 f2 => wpl ⟨nI_1 _, ?_, sx_trans t1 f2.2⟩)
      dsimp only
      rw [het, hbe, puts_app, puts_app, puts_1, puts_1]
      exact f2.1
    · intro Q' k' hk'
      by_cases e0 : e = 0
      · exact wpt (by rw [e0]; rfl) (hk' _ ⟨58, rfl, by decide, if_pos e0⟩)
      · exact wpf (fun z => e0 ((nI_eq (by omega) (by omega)).mp z)) (hk' _ ⟨44, rfl, by decide, if_neg e0⟩)
  · rintro ⟨e0, w⟩ ⟨g1, g2, g3⟩
    dsimp only at g1 g2 g3
    subst g1
    dsimp only
    rw [R1 g3 (oA o) 1 (by omega) (by omega), hel.2.2.2]
    exact wpt (by simp (disch := first | omega | decide) only [↓neg1, nlit, rI, rL, rI2, rL1, nI_add, pk_mul, sbT, dvT, nmd, ixT, ↓ibT, ltT, ltF, leT, leF, eqT, eqF, nM_ltT, nM_ltF, nM_leT, nM_leF, nM_eqF, nM_eqF', nbT0, nbT1, oI_s, oI_n, natF, natT, nltT, nltF, nleT, nleF, ↓reduceIte, lgc, not_true_eq_false, not_false_eq_true, or_false, false_or, or_true, true_or, and_true, true_and, and_false, false_and, ne_eq, eq_self, or_self, and_self]) ⟨g2, g3⟩
  · exact hO2
  · rintro x ⟨x1, x2⟩
    generalize puts L2 (elT m o (eln m o)) = L3 at *
    refine wpc (K' := fun d : cS => OC d (puts L3 (nxA m o (eln m o))) ∧ sx qO c d) (whl_cnt (fun a (st : Int32 × cS) => st.1 = nI a ∧ OC st.2 (puts L3 (nxA m o a)) ∧ sx qO c st.2) (eln m o) ?_ ?_ (by omega) ⟨rfl, x1, x2⟩) ?_
    · rintro a ⟨a0, w⟩ ha ⟨g1, g2, g3⟩
      dsimp only at g1 g2 g3
      subst g1
      dsimp only
      rw [R1 g3 (oA o) 1 (by omega) (by omega), hel.2.2.2]
      refine wpf (by simp (disch := first | omega | decide) only [↓neg1, nlit, rI, rL, rI2, rL1, nI_add, pk_mul, sbT, dvT, nmd, ixT, ↓ibT, ltT, ltF, leT, leF, eqT, eqF, nM_ltT, nM_ltF, nM_leT, nM_leF, nM_eqF, nM_eqF', nbT0, nbT1, oI_s, oI_n, natF, natT, nltT, nltF, nleT, nleF, ↓reduceIte, lgc, not_true_eq_false, not_false_eq_true, or_false, false_or, or_true, true_or, and_true, true_and, and_false, false_and, ne_eq, eq_self, or_self, and_self]) ?_
      have hnA : nxA m o (a + 1) = nxA m o a ++ nxT m o a (eln m o) := rfl
      refine wpc (K' := fun d : cS => OC d (puts L3 (nxA m o (a + 1))) ∧ sx qO c d) (whl_cnt (fun b (st : Int32 × cS) => st.1 = nI b ∧ OC st.2 (puts (puts L3 (nxA m o a)) (nxT m o a b)) ∧ sx qO c st.2) (eln m o) ?_ ?_ (by omega) ⟨rfl, g2, g3⟩) (fun d hd => wpl ⟨nI_1 _, hd.1, hd.2⟩)
      · rintro b ⟨b0, y⟩ hb ⟨q1, q2, q3⟩
        dsimp only at q1 q2 q3
        subst q1
        dsimp only
        rw [R1 q3 (oA o) 1 (by omega) (by omega), hel.2.2.2]
        have hOy := OOS_CA (CA_sx q3 nC_qO) hO
        refine wpf (by simp (disch := first | omega | decide) only [↓neg1, nlit, rI, rL, rI2, rL1, nI_add, pk_mul, sbT, dvT, nmd, ixT, ↓ibT, ltT, ltF, leT, leF, eqT, eqF, nM_ltT, nM_ltF, nM_leT, nM_leF, nM_eqF, nM_eqF', nbT0, nbT1, oI_s, oI_n, natF, natT, nltT, nltF, nleT, nleF, ↓reduceIte, lgc, not_true_eq_false, not_false_eq_true, or_false, false_or, or_true, true_or, and_true, true_and, and_false, false_and, ne_eq, eq_self, or_self, and_self]) (wpe (e240 hOy ho ha hb) ?_)
        have hnT : nxT m o a (b + 1) = nxT m o a b ++ (if nxB m o a b = true then [[44], sg (m.2 183 (12 * o + a)), [60], sg (m.2 183 (12 * o + b))] else []) := rfl
        refine wpjQ (fun z : cS => OC z (puts (puts L3 (nxA m o a)) (nxT m o a (b + 1))) ∧ sx qO c z) (fun z hz => wpl ⟨nI_1 _, hz.1, hz.2⟩) ?_
        intro Q' k' hk'
        rw [hnT] at hk'
        by_cases e : nxB m o a b = true
        · rw [if_pos e, puts_app] at hk'
          rw [if_pos e]
          refine wpf (by decide) (wpc (e322 (b := 44) (by decide) q2) (fun y1 f1 => wpt (by simp (disch := first | omega | decide) only [↓neg1, nlit, rI, rL, rI2, rL1, nI_add, pk_mul, sbT, dvT, nmd, ixT, ↓ibT, ltT, ltF, leT, leF, eqT, eqF, nM_ltT, nM_ltF, nM_leT, nM_leF, nM_eqF, nM_eqF', nbT0, nbT1, oI_s, oI_n, natF, natT, nltT, nltF, nleT, nleF, ↓reduceIte, lgc, not_true_eq_false, not_false_eq_true, or_false, false_or, or_true, true_or, and_true, true_and, and_false, false_and, ne_eq, eq_self, or_self, and_self]) ?_))
          have t1 := sx_trans q3 f1.2
          rw [ix_n (by omega), R2 t1 (oA o + 1) a (by omega) (by omega), hRO.2.2.2.1 a ha]
          refine wpc (e320 hn f1.1) (fun y2 f2 => wpc (e322 (b := 60) (by decide) f2.1) (fun y3 f3 => wpt (by simp (disch := first | omega | decide) only [↓neg1, nlit, rI, rL, rI2, rL1, nI_add, pk_mul, sbT, dvT, nmd, ixT, ↓ibT, ltT, ltF, leT, leF, eqT, eqF, nM_ltT, nM_ltF, nM_leT, nM_leF, nM_eqF, nM_eqF', nbT0, nbT1, oI_s, oI_n, natF, natT, nltT, nltF, nleT, nleF, ↓reduceIte, lgc, not_true_eq_false, not_false_eq_true, or_false, false_or, or_true, true_or, and_true, true_and, and_false, false_and, ne_eq, eq_self, or_self, and_self]) ?_))
          have t3 := sx_trans t1 (sx_trans f2.2 f3.2)
          rw [ix_n (by omega), R2 t3 (oA o + 1) b (by omega) (by omega), hRO.2.2.2.1 b hb]
          exact wpc (e320 hn f3.1) (fun y4 f4 => hk' y4 ⟨f4.1, sx_trans t3 f4.2⟩)
        · rw [if_neg e, List.append_nil] at hk'
          rw [if_neg e]
          exact wpt rfl (hk' y ⟨q2, q3⟩)
      · rintro ⟨b0, y⟩ ⟨q1, q2, q3⟩
        dsimp only at q1 q2 q3
        subst q1
        dsimp only
        rw [R1 q3 (oA o) 1 (by omega) (by omega), hel.2.2.2]
        refine wpt (by simp (disch := first | omega | decide) only [↓neg1, nlit, rI, rL, rI2, rL1, nI_add, pk_mul, sbT, dvT, nmd, ixT, ↓ibT, ltT, ltF, leT, leF, eqT, eqF, nM_ltT, nM_ltF, nM_leT, nM_leF, nM_eqF, nM_eqF', nbT0, nbT1, oI_s, oI_n, natF, natT, nltT, nltF, nleT, nleF, ↓reduceIte, lgc, not_true_eq_false, not_false_eq_true, or_false, false_or, or_true, true_or, and_true, true_and, and_false, false_and, ne_eq, eq_self, or_self, and_self]) ⟨?_, q3⟩
        rw [hnA, puts_app]
        exact q2
    · rintro ⟨a0, w⟩ ⟨g1, g2, g3⟩
      dsimp only at g1 g2 g3
      subst g1
      dsimp only
      rw [R1 g3 (oA o) 1 (by omega) (by omega), hel.2.2.2]
      exact wpt (by simp (disch := first | omega | decide) only [↓neg1, nlit, rI, rL, rI2, rL1, nI_add, pk_mul, sbT, dvT, nmd, ixT, ↓ibT, ltT, ltF, leT, leF, eqT, eqF, nM_ltT, nM_ltF, nM_leT, nM_leF, nM_eqF, nM_eqF', nbT0, nbT1, oI_s, oI_n, natF, natT, nltT, nltF, nleT, nleF, ↓reduceIte, lgc, not_true_eq_false, not_false_eq_true, or_false, false_or, or_true, true_or, and_true, true_and, and_false, false_and, ne_eq, eq_self, or_self, and_self]) ⟨g2, g3⟩
    · rintro z ⟨z1, z2⟩
      exact wpc (e322 (b := 59) (by decide) z1) (fun d hd => ⟨hd.1, sx_trans z2 hd.2⟩)
theorem wbq : wb 33 = [58] ∧ wb 51 = [44] ∧ wb 52 = [40] ∧ wb 53 = [61] ∧ wb 54 = [41] ∧ wb 55 = [60] ∧ wb 56 = [123] ∧ wb 57 = [125] := by decide +kernel
theorem e444 {n o : Nat} {c m u : cS} {L : List Nat} (hn : 2000 ≤ n) (hA : AG m u) (hO : OOS c m) (ho : o < ocn m) (h : OG u L) : wp (d_444 n (nI o) u) (fun d => OG d (puts L (orT m o)) ∧ sx pTl u d) := by
  have hel := OOS_el hO ho
  have ho4 := hO.1
  have h182 : ∀ {w : cS}, sx pTl u w → w.1 182 o = nI (eln m o) := fun hs => ((AG_pTl hA hs).1 182 _ rfl).trans hel.2.2.1
  have h183 : ∀ {w : cS}, sx pTl u w → ∀ i, w.2 183 i = m.2 183 i := fun hs i => (AG_pTl hA hs).2.1 183 _ rfl
  have hix : ∀ e, (12 : Int32) * nI o + nI e = nI (12 * o + e) := fun e => by rw [show (12 : Int32) = nI 12 from rfl, pk_mul, nI_add]
  unfold orT
  rw [puts_app, puts_1, puts_app, puts_1, puts_app, puts_app, puts_1]
  unfold d_444
  refine wpc (e362w hn (by decide) (by decide) h) (fun d1 h1 => wpt (by simp (disch := first | omega | decide) only [↓neg1, nlit, rI, rL, rI2, rL1, nI_add, pk_mul, sbT, dvT, nmd, ixT, ↓ibT, ltT, ltF, leT, leF, eqT, eqF, nM_ltT, nM_ltF, nM_leT, nM_leF, nM_eqF, nM_eqF', nbT0, nbT1, oI_s, oI_n, natF, natT, nltT, nltF, nleT, nleF, ↓reduceIte, lgc, not_true_eq_false, not_false_eq_true, or_false, false_or, or_true, true_or, and_true, true_and, and_false, false_and, ne_eq, eq_self, or_self, and_self]) ?_)
  have hL1 : put L (wb 2) ≠ [] := put_ne (Or.inr (wb_ne (by decide) (by decide)))
  rw [ix_n (by omega), (AG_pG hA h1.2).2.1 181 _ rfl]
  refine wpc (e363 (by omega) hL1 h1.1) (fun d2 h2 => wpc (e362w hn (by decide) (by decide) h2.1) (fun d3 h3 => ?_))
  have s3 := sx_trans (pG_T h1.2) (sx_trans (pG_T h2.2) (pG_T h3.2))
  have hO3 := h3.1
  rw [wbq.1] at hO3
  have hL2 : put (put L (wb 2)) (sg (m.2 181 o)) ≠ [] := put_ne (Or.inl hL1)
  generalize hL2 : put (put L (wb 2)) (sg (m.2 181 o)) = L2 at *
  refine wpc (K' := fun d : cS => OG d (puts L2 (elT m o (eln m o))) ∧ sx pTl u d) (whl_cnt (fun e (st : Int32 × cS) => st.1 = nI e ∧ OG st.2 (if e = 0 then put L2 [58] else puts L2 (elT m o e)) ∧ sx pTl u st.2) (eln m o) ?_ ?_ (by omega) ⟨rfl, hO3, s3⟩) ?_
  · rintro e ⟨e0, w⟩ he ⟨g1, g2, g3⟩
    dsimp only at g1 g2 g3
    subst g1
    dsimp only
    refine wpt (by simp (disch := first | omega | decide) only [↓neg1, nlit, rI, rL, rI2, rL1, nI_add, pk_mul, sbT, dvT, nmd, ixT, ↓ibT, ltT, ltF, leT, leF, eqT, eqF, nM_ltT, nM_ltF, nM_leT, nM_leF, nM_eqF, nM_eqF', nbT0, nbT1, oI_s, oI_n, natF, natT, nltT, nltF, nleT, nleF, ↓reduceIte, lgc, not_true_eq_false, not_false_eq_true, or_false, false_or, or_true, true_or, and_true, true_and, and_false, false_and, ne_eq, eq_self, or_self, and_self]) ?_
    try rw [ix_n (by omega)]
    rw [h182 g3]
    refine wpf (by simp (disch := first | omega | decide) only [↓neg1, nlit, rI, rL, rI2, rL1, nI_add, pk_mul, sbT, dvT, nmd, ixT, ↓ibT, ltT, ltF, leT, leF, eqT, eqF, nM_ltT, nM_ltF, nM_leT, nM_leF, nM_eqF, nM_eqF', nbT0, nbT1, oI_s, oI_n, natF, natT, nltT, nltF, nleT, nleF, ↓reduceIte, lgc, not_true_eq_false, not_false_eq_true, or_false, false_or, or_true, true_or, and_true, true_and, and_false, false_and, ne_eq, eq_self, or_self, and_self]) ?_
    have het : elT m o (e + 1) = elT m o e ++ ([if e = 0 then [58] else [44]] ++ [sg (m.2 183 (12 * o + e))]) := rfl
    refine wpjQ (fun z : cS => OG z (put (puts L2 (elT m o e)) (if e = 0 then [58] else [44])) ∧ sx pTl u z) ?_ ?_
    · rintro z ⟨z1, z2⟩
      rw [hix]
      refine wpt (by simp (disch := first | omega | decide) only [↓neg1, nlit, rI, rL, rI2, rL1, nI_add, pk_mul, sbT, dvT, nmd, ixT, ↓ibT, ltT, ltF, leT, leF, eqT, eqF, nM_ltT, nM_ltF, nM_leT, nM_leF, nM_eqF, nM_eqF', nbT0, nbT1, oI_s, oI_n, natF, natT, nltT, nltF, nleT, nleF, ↓reduceIte, lgc, not_true_eq_false, not_false_eq_true, or_false, false_or, or_true, true_or, and_true, true_and, and_false, false_and, ne_eq, eq_self, or_self, and_self]) ?_
      rw [ix_n (by omega), h183 z2]
      refine wpc (e363 (by omega) (put_ne (Or.inl (puts_ne hL2 _))) z1) (fun y2 f2 => wpl ⟨nI_1 _, ?_, sx_trans z2 (pG_T f2.2)⟩)
      dsimp only
      rw [if_neg (by omega), het, puts_app, puts_app, puts_1, puts_1]
      exact f2.1
    · intro Q' k' hk'
      by_cases e0 : e = 0
      · rw [if_pos e0] at g2
        refine wpt (by rw [e0]; decide) (hk' w ⟨?_, g3⟩)
        rw [if_pos e0, e0]
        exact g2
      · rw [if_neg e0] at g2
        refine wpf (fun z => by
          have := Int32.le_iff_toInt_le.mp z
          rw [nI_toInt (by omega), show (0 : Int32).toInt = 0 by decide] at this
          omega) (wpc (e362w hn (by decide) (by decide) g2) (fun y1 f1 => hk' y1 ⟨?_, sx_trans g3 (pG_T f1.2)⟩))
        have := f1.1
        rw [wbq.2.1] at this
        rw [if_neg e0]
        exact this
  · rintro ⟨e0, w⟩ ⟨g1, g2, g3⟩
    dsimp only at g1 g2 g3
    subst g1
    dsimp only
    rw [if_neg (by omega)] at g2
    refine wpt (by simp (disch := first | omega | decide) only [↓neg1, nlit, rI, rL, rI2, rL1, nI_add, pk_mul, sbT, dvT, nmd, ixT, ↓ibT, ltT, ltF, leT, leF, eqT, eqF, nM_ltT, nM_ltF, nM_leT, nM_leF, nM_eqF, nM_eqF', nbT0, nbT1, oI_s, oI_n, natF, natT, nltT, nltF, nleT, nleF, ↓reduceIte, lgc, not_true_eq_false, not_false_eq_true, or_false, false_or, or_true, true_or, and_true, true_and, and_false, false_and, ne_eq, eq_self, or_self, and_self]) ?_
    try rw [ix_n (by omega)]
    rw [h182 g3]
    exact wpt (by simp (disch := first | omega | decide) only [↓neg1, nlit, rI, rL, rI2, rL1, nI_add, pk_mul, sbT, dvT, nmd, ixT, ↓ibT, ltT, ltF, leT, leF, eqT, eqF, nM_ltT, nM_ltF, nM_leT, nM_leF, nM_eqF, nM_eqF', nbT0, nbT1, oI_s, oI_n, natF, natT, nltT, nltF, nleT, nleF, ↓reduceIte, lgc, not_true_eq_false, not_false_eq_true, or_false, false_or, or_true, true_or, and_true, true_and, and_false, false_and, ne_eq, eq_self, or_self, and_self]) ⟨g2, g3⟩
  · rintro x ⟨x1, x2⟩
    have hL3 := puts_ne hL2 (elT m o (eln m o))
    generalize puts L2 (elT m o (eln m o)) = L3 at *
    refine wpc (K' := fun d : cS => OG d (puts L3 (nxA m o (eln m o))) ∧ sx pTl u d) (whl_cnt (fun a (st : Int32 × cS) => st.1 = nI a ∧ OG st.2 (puts L3 (nxA m o a)) ∧ sx pTl u st.2) (eln m o) ?_ ?_ (by omega) ⟨rfl, x1, x2⟩) ?_
    · rintro a ⟨a0, w⟩ ha ⟨g1, g2, g3⟩
      dsimp only at g1 g2 g3
      subst g1
      dsimp only
      refine wpt (by simp (disch := first | omega | decide) only [↓neg1, nlit, rI, rL, rI2, rL1, nI_add, pk_mul, sbT, dvT, nmd, ixT, ↓ibT, ltT, ltF, leT, leF, eqT, eqF, nM_ltT, nM_ltF, nM_leT, nM_leF, nM_eqF, nM_eqF', nbT0, nbT1, oI_s, oI_n, natF, natT, nltT, nltF, nleT, nleF, ↓reduceIte, lgc, not_true_eq_false, not_false_eq_true, or_false, false_or, or_true, true_or, and_true, true_and, and_false, false_and, ne_eq, eq_self, or_self, and_self]) ?_
      try rw [ix_n (by omega)]
      rw [h182 g3]
      refine wpf (by simp (disch := first | omega | decide) only [↓neg1, nlit, rI, rL, rI2, rL1, nI_add, pk_mul, sbT, dvT, nmd, ixT, ↓ibT, ltT, ltF, leT, leF, eqT, eqF, nM_ltT, nM_ltF, nM_leT, nM_leF, nM_eqF, nM_eqF', nbT0, nbT1, oI_s, oI_n, natF, natT, nltT, nltF, nleT, nleF, ↓reduceIte, lgc, not_true_eq_false, not_false_eq_true, or_false, false_or, or_true, true_or, and_true, true_and, and_false, false_and, ne_eq, eq_self, or_self, and_self]) ?_
      have hnA : nxA m o (a + 1) = nxA m o a ++ nxT m o a (eln m o) := rfl
      refine wpc (K' := fun d : cS => OG d (puts L3 (nxA m o (a + 1))) ∧ sx pTl u d) (whl_cnt (fun b (st : Int32 × cS) => st.1 = nI b ∧ OG st.2 (puts (puts L3 (nxA m o a)) (nxT m o a b)) ∧ sx pTl u st.2) (eln m o) ?_ ?_ (by omega) ⟨rfl, g2, g3⟩) (fun d hd => wpl ⟨nI_1 _, hd.1, hd.2⟩)
      · rintro b ⟨b0, y⟩ hb ⟨q1, q2, q3⟩
        dsimp only at q1 q2 q3
        subst q1
        dsimp only
        refine wpt (by simp (disch := first | omega | decide) only [↓neg1, nlit, rI, rL, rI2, rL1, nI_add, pk_mul, sbT, dvT, nmd, ixT, ↓ibT, ltT, ltF, leT, leF, eqT, eqF, nM_ltT, nM_ltF, nM_leT, nM_leF, nM_eqF, nM_eqF', nbT0, nbT1, oI_s, oI_n, natF, natT, nltT, nltF, nleT, nleF, ↓reduceIte, lgc, not_true_eq_false, not_false_eq_true, or_false, false_or, or_true, true_or, and_true, true_and, and_false, false_and, ne_eq, eq_self, or_self, and_self]) ?_
        rw [h182 q3]
        refine wpf (by simp (disch := first | omega | decide) only [↓neg1, nlit, rI, rL, rI2, rL1, nI_add, pk_mul, sbT, dvT, nmd, ixT, ↓ibT, ltT, ltF, leT, leF, eqT, eqF, nM_ltT, nM_ltF, nM_leT, nM_leF, nM_eqF, nM_eqF', nbT0, nbT1, oI_s, oI_n, natF, natT, nltT, nltF, nleT, nleF, ↓reduceIte, lgc, not_true_eq_false, not_false_eq_true, or_false, false_or, or_true, true_or, and_true, true_and, and_false, false_and, ne_eq, eq_self, or_self, and_self]) (wpe (e443 (by omega) (AG_pTl hA q3) hO ho ha hb) ?_)
        have hnT : nxT m o a (b + 1) = nxT m o a b ++ (if nxB m o a b = true then [[44], sg (m.2 183 (12 * o + a)), [60], sg (m.2 183 (12 * o + b))] else []) := rfl
        refine wpjQ (fun z : cS => OG z (puts (puts L3 (nxA m o a)) (nxT m o a (b + 1))) ∧ sx pTl u z) (fun z hz => wpl ⟨nI_1 _, hz.1, hz.2⟩) ?_
        intro Q' k' hk'
        rw [hnT] at hk'
        have hLn := puts_ne (puts_ne hL3 (nxA m o a)) (nxT m o a b)
        by_cases e : nxB m o a b = true
        · rw [if_pos e, puts_app] at hk'
          rw [if_pos e, hix, hix]
          refine wpf (by decide) (wpc (e362w hn (by decide) (by decide) q2) (fun y1 f1 => wpt (by simp (disch := first | omega | decide) only [↓neg1, nlit, rI, rL, rI2, rL1, nI_add, pk_mul, sbT, dvT, nmd, ixT, ↓ibT, ltT, ltF, leT, leF, eqT, eqF, nM_ltT, nM_ltF, nM_leT, nM_leF, nM_eqF, nM_eqF', nbT0, nbT1, oI_s, oI_n, natF, natT, nltT, nltF, nleT, nleF, ↓reduceIte, lgc, not_true_eq_false, not_false_eq_true, or_false, false_or, or_true, true_or, and_true, true_and, and_false, false_and, ne_eq, eq_self, or_self, and_self]) ?_))
          have t1 := sx_trans q3 (pG_T f1.2)
          have f11 := f1.1
          rw [wbq.2.1] at f11
          rw [ix_n (by omega), h183 t1]
          refine wpc (e363 (by omega) (put_ne (Or.inl hLn)) f11) (fun y2 f2 => wpc (e362w hn (by decide) (by decide) f2.1) (fun y3 f3 => wpt (by simp (disch := first | omega | decide) only [↓neg1, nlit, rI, rL, rI2, rL1, nI_add, pk_mul, sbT, dvT, nmd, ixT, ↓ibT, ltT, ltF, leT, leF, eqT, eqF, nM_ltT, nM_ltF, nM_leT, nM_leF, nM_eqF, nM_eqF', nbT0, nbT1, oI_s, oI_n, natF, natT, nltT, nltF, nleT, nleF, ↓reduceIte, lgc, not_true_eq_false, not_false_eq_true, or_false, false_or, or_true, true_or, and_true, true_and, and_false, false_and, ne_eq, eq_self, or_self, and_self]) ?_))
          have t3 := sx_trans t1 (sx_trans (pG_T f2.2) (pG_T f3.2))
          have f31 := f3.1
          rw [wbq.2.2.2.2.2.1] at f31
          rw [ix_n (by omega), h183 t3]
          exact wpc (e363 (by omega) (put_ne (Or.inl (put_ne (Or.inl (put_ne (Or.inl hLn)))))) f31) (fun y4 f4 => hk' y4 ⟨f4.1, sx_trans t3 (pG_T f4.2)⟩)
        · rw [if_neg e, List.append_nil] at hk'
          rw [if_neg e]
          exact wpt rfl (hk' y ⟨q2, q3⟩)
      · rintro ⟨b0, y⟩ ⟨q1, q2, q3⟩
        dsimp only at q1 q2 q3
        subst q1
        dsimp only
        refine wpt (by simp (disch := first | omega | decide) only [↓neg1, nlit, rI, rL, rI2, rL1, nI_add, pk_mul, sbT, dvT, nmd, ixT, ↓ibT, ltT, ltF, leT, leF, eqT, eqF, nM_ltT, nM_ltF, nM_leT, nM_leF, nM_eqF, nM_eqF', nbT0, nbT1, oI_s, oI_n, natF, natT, nltT, nltF, nleT, nleF, ↓reduceIte, lgc, not_true_eq_false, not_false_eq_true, or_false, false_or, or_true, true_or, and_true, true_and, and_false, false_and, ne_eq, eq_self, or_self, and_self]) ?_
        rw [h182 q3]
        refine wpt (by simp (disch := first | omega | decide) only [↓neg1, nlit, rI, rL, rI2, rL1, nI_add, pk_mul, sbT, dvT, nmd, ixT, ↓ibT, ltT, ltF, leT, leF, eqT, eqF, nM_ltT, nM_ltF, nM_leT, nM_leF, nM_eqF, nM_eqF', nbT0, nbT1, oI_s, oI_n, natF, natT, nltT, nltF, nleT, nleF, ↓reduceIte, lgc, not_true_eq_false, not_false_eq_true, or_false, false_or, or_true, true_or, and_true, true_and, and_false, false_and, ne_eq, eq_self, or_self, and_self]) ⟨?_, q3⟩
        rw [hnA, puts_app]
        exact q2
    · rintro ⟨a0, w⟩ ⟨g1, g2, g3⟩
      dsimp only at g1 g2 g3
      subst g1
      dsimp only
      refine wpt (by simp (disch := first | omega | decide) only [↓neg1, nlit, rI, rL, rI2, rL1, nI_add, pk_mul, sbT, dvT, nmd, ixT, ↓ibT, ltT, ltF, leT, leF, eqT, eqF, nM_ltT, nM_ltF, nM_leT, nM_leF, nM_eqF, nM_eqF', nbT0, nbT1, oI_s, oI_n, natF, natT, nltT, nltF, nleT, nleF, ↓reduceIte, lgc, not_true_eq_false, not_false_eq_true, or_false, false_or, or_true, true_or, and_true, true_and, and_false, false_and, ne_eq, eq_self, or_self, and_self]) ?_
      try rw [ix_n (by omega)]
      rw [h182 g3]
      exact wpt (by simp (disch := first | omega | decide) only [↓neg1, nlit, rI, rL, rI2, rL1, nI_add, pk_mul, sbT, dvT, nmd, ixT, ↓ibT, ltT, ltF, leT, leF, eqT, eqF, nM_ltT, nM_ltF, nM_leT, nM_leF, nM_eqF, nM_eqF', nbT0, nbT1, oI_s, oI_n, natF, natT, nltT, nltF, nleT, nleF, ↓reduceIte, lgc, not_true_eq_false, not_false_eq_true, or_false, false_or, or_true, true_or, and_true, true_and, and_false, false_and, ne_eq, eq_self, or_self, and_self]) ⟨g2, g3⟩
    · rintro z ⟨z1, z2⟩
      refine wpc (e362w hn (by decide) (by decide) z1) (fun d hd => ⟨?_, sx_trans z2 (pG_T hd.2)⟩)
      have := hd.1
      rw [wbs.1] at this
      exact this
