/-! DEPTHS: one METHOD -/
section DPM
variable {n i j N k M a b a0 na op B X E t x b1 : Nat} {c d u v w q c0 u0 c' u' : cS}
def dlC (n : Nat) (a1 a2 : Int32) (s6 : Int64 × Int32 × cS) : Option ((Int64 × Int32 × cS) ⊕ (cS ⊕ (cS ⊕ cS))) :=
    if 40 ≤ s6.2.1 then
      some (.inr (.inl s6.2.2))
    else
      if (lg_cmp s6.1 0) = 0 then
        some (.inr (.inl s6.2.2))
      else
        Option.bind (d_483 n s6.1) (fun v7 =>
        lt ((s6.1 &&& (s6.1 - 1)) : Int64) (fun v10 =>
        Option.bind (d_290 n a1 a2 v7 s6.2.2) (Sum.elim (fun r12 =>
        lt ((v10 ||| r12.1) : Int64) (fun v15 =>
        lt (s6.2.1 + 1 : Int32) (fun v18 =>
        some (.inl (v15, v18, r12.2)))))
        (fun z13 => some (.inr (.inr (.inr z13)))))))
theorem d289_s {a1 a2 : Int32} : d_289 n a1 a2 c = if ib a1 1024 then
  lt (pI c 125 (ix a1) 0) (fun c2 =>
  Option.bind (whl (dlC n a1 a2) n (1, 0, c2))
  (Sum.elim (fun x20 : cS =>
    some (.inl x20))
  (fun x21 : (cS) ⊕ cS =>
    some x21)))
  else none := rfl
def dpL (v3 v7 : Int32) (s10 : Int32 × cS) : Option ((Int32 × cS) ⊕ cS) :=
    if v7 ≤ s10.1 then
      some (.inr s10.2)
    else
      if ib (v3 + s10.1) 3840 then
      lt (pI s10.2 230 (ix (v3 + s10.1)) (-1)) (fun c12 =>
      if ib s10.1 40 then
      lt (pI c12 231 (ix s10.1) (vp_nar .boolean 0)) (fun c15 =>
      lt (s10.1 + 1 : Int32) (fun v18 =>
      some (.inl (v18, c15))))
      else none)
      else none
def dsR (v3 v7 : Int32) (s24 : cS) (s26 : Int32) : Option (Int32 ⊕ Int32) :=
          if v7 ≤ s26 then
            some (.inr s26)
          else
            if ib (v3 + s26) 3840 then
            jn (fun p28 : Unit =>
              lt (s26 + 1 : Int32) (fun v30 =>
              some (.inl v30)))
            (fun j92 =>
            if (s24.1 230 (ix (v3 + s26))) < 0 then
              j92 ()
            else
              if ib s26 40 then
              if (s24.1 231 (ix s26)) = 0 then
                some (.inr s26)
              else
                j92 ()
              else none)
            else none
def d2R (n : Nat) (v3 v7 x33 : Int32) (c35 : cS) : Option (cS ⊕ (cS ⊕ (cS ⊕ (Int32 × cS)))) :=
            lt ((v3 + x33) : Int32) (fun v38 =>
            if ib v38 3840 then
            Option.bind (d_417 n v38 c35) (fun v41 =>
            lt (((c35.1 230 (ix v38)) - v41) : Int32) (fun v43 =>
            if v43 < 0 then
              some (.inr (.inr (.inr (v38, c35))))
            else
              Option.bind (d_418 n v38 c35) (fun v45 =>
              if (v43 + v45) ≤ 8 then
                Option.bind (d_418 n v38 c35) (fun v46 =>
                lt ((v43 + v46) : Int32) (fun v48 =>
                d3R n v3 v7 x33 v38 v48 c35))
              else
                some (.inr (.inr (.inr (v38, c35)))))))
            else none)
def dlR (n : Nat) (v3 v7 : Int32) (s24 : cS) : Option (cS ⊕ (cS ⊕ (cS ⊕ (Int32 × cS)))) :=
      if (s24.1 174 13) = 0 then
        Option.bind (whl (dsR v3 v7 s24) n 0)
        (fun x33 : Int32 =>
          if x33 = v7 then
            some (.inr (.inr (.inl s24)))
          else
            if ib x33 40 then
            lt (pI s24 231 (ix x33) (vp_nar .boolean 1)) (d2R n v3 v7 x33)
            else none)
      else
        some (.inr (.inl s24))
theorem d419_s {a1 : Int32} : d_419 n a1 u = lt ((40 * a1) : Int32) (fun v3 =>
  if ib a1 96 then
  lt ((u.1 210 (ix a1)) : Int32) (fun v7 =>
  Option.bind (whl (dpL v3 v7) n (0, u))
  (fun x20 : cS =>
    if ib v3 3840 then
    lt (pI x20 230 (ix v3) 0) (fun c22 =>
    Option.bind (whl (dlR n v3 v7) n c22)
    (Sum.elim (fun x60 : cS =>
      some x60)
    (Sum.elim (fun x61 : cS =>
      some x61)
    (fun x62 : Int32 × cS =>
      if ib x62.1 3840 then
      Option.bind (d_97 n 8 (x62.2.1 213 (ix x62.1)) x62.2) (fun r64 =>
      some r64)
      else none))))
    else none))
  else none) := rfl
theorem dfn0 : ∀ x : Fin 9, ∀ y : Fin 5, (nI x.1 - nI y.1 < 0 ↔ x.1 < y.1) := by decide
/-- what the DEPTHS of a METHOD rest on -/
def DBS (n : Nat) (c0 u0 : cS) (M a0 na : Nat) : Prop := CCS c0 u0 ∧ M < 96 ∧ a0 + na ≤ 1024 ∧ (1 ≤ na ∧ na ≤ 40) ∧ u0.1 174 13 = nI 0 ∧ acn u0 M = na ∧ ∀ i, i < na → ACD c0 u0 M (a0 + i) (40 * M + i)
theorem DBS_g (h : DBS n c0 u0 M a0 na) (hx : x < na) : ∃ op, (14 ≤ op ∧ op ≤ 30) ∧ u0.1 211 (40 * M + x) = nI op ∧ opn u0 (40 * M + x) = op ∧ c0.1 124 (a0 + x) = u0.1 216 (40 * M + x) ∧ c0.1 130 (a0 + x) = u0.1 213 (40 * M + x) ∧ (u0.1 216 (40 * M + x) = nM ∨ ∃ t, t < na ∧ u0.1 216 (40 * M + x) = nI t) := by
  obtain ⟨-, -, -, -, -, hac, hA⟩ := h
  obtain ⟨op, ho, -, u211, -, ⟨h124, -⟩, h130, hO⟩ := hA x hx
  have hop : opn u0 (40 * M + x) = op := by
    unfold opn
    rw [u211, ix_n (by omega)]
  refine ⟨op, ho, u211, hop, h124, h130, ?_⟩
  obtain ⟨-, -, -, -, -, -, h7, h8⟩ := hO
  rw [hop, hac] at h7
  rw [hop] at h8
  by_cases e : op = 27 ∨ op = 28 ∨ op = 29
  · obtain ⟨t, t1, t2, -⟩ := h7 e
    exact Or.inr ⟨t, t1, t2⟩
  · exact Or.inl (h8 ⟨fun z => e (Or.inl z), fun z => e (Or.inr (Or.inl z)), fun z => e (Or.inr (Or.inr z))⟩)
/-- what the words are while DEPTHS change -/
theorem DBS_ev (h : DBS n c0 u0 M a0 na) (hx : x < na) (sc : sx (qDc a0 na) c0 w) (su : sx (qDu M) u0 v) : DEV n w v (a0 + x) (40 * M + x) ∧ tkn v (40 * M + x) = tkn u0 (40 * M + x) ∧ gvn v (40 * M + x) = gvn u0 (40 * M + x) ∧ opn v (40 * M + x) = opn u0 (40 * M + x) := by
  obtain ⟨hC, hM, ha0, hna, -, -, hA⟩ := h
  have D : ∀ A l, ¬ A = 125 → w.1 A l = c0.1 A l ∧ w.2 A l = c0.2 A l := fun A l z => ⟨sc.1 _ _ (decide_eq_false (by omega)), sc.2 _ _ (decide_eq_false (by omega))⟩
  have S : ∀ A l, ¬ (A = 230 ∨ A = 231) → v.1 A l = u0.1 A l ∧ v.2 A l = u0.2 A l := fun A l z => ⟨su.1 _ _ (decide_eq_false (by omega)), su.2 _ _ (decide_eq_false (by omega))⟩
  refine ⟨dev_of (CCS_cg hC (fun A l z => D A l (by omega)) (fun A l z => S A l (by omega))) (by omega) (by omega) (ACD_cg (hA x hx) (fun A l z => D A l (by unfold acW3 at z; omega)) (fun A l z => S A l (by unfold auW at z; omega))), ?_, ?_, ?_⟩
  · unfold tkn opn pM xN yN
    rw [(S 211 _ (by omega)).1, (S 214 _ (by omega)).1, (S 215 _ (by omega)).1, (S 207 _ (by omega)).1]
  · unfold gvn opn
    rw [(S 211 _ (by omega)).1]
  · unfold opn
    rw [(S 211 _ (by omega)).1]
/-- the first ACT that waits -/
theorem seek_r (hn : 100 ≤ n) (hM : M < 96) (hna : na ≤ 40) (h : ∀ i, i < na → u.1 230 (40 * M + i) = nM ∨ ∃ d, d ≤ 8 ∧ u.1 230 (40 * M + i) = nI d) : whl (dsR (nI (40 * M)) (nI na) u) n 0 = some (nI ((ff (fun i => decide (u.1 230 (40 * M + i) ≠ nM ∧ u.1 231 i = nI 0)) na).getD na)) := by
  have key : whl (dsR (nI (40 * M)) (nI na) u) n (nI 0) = some ((ff (fun i => decide (u.1 230 (40 * M + i) ≠ nM ∧ u.1 231 i = nI 0)) na).elim (nI na) (fun j => nI j)) := by
    refine whl_ff (fun i => nI i) (nI na) (fun j => nI j) (fun i => decide (u.1 230 (40 * M + i) ≠ nM ∧ u.1 231 i = nI 0)) (by omega) ?_ (fun j hj => ?_)
    · unfold dsR
      exact eq_wp (wpt (by simp (disch := first | omega | decide) only [↓neg1, nlit, rI, rL, rI2, rL1, nI_add, pk_mul, sbT, dvT, nmd, ixT, ↓ibT, ltT, ltF, leT, leF, eqT, eqF, nM_ltT, nM_ltF, nM_leT, nM_leF, nM_eqF, nM_eqF', nbT0, nbT1, oI_s, oI_n, natF, natT, nltT, nltF, nleT, nleF, ↓reduceIte, lgc, not_true_eq_false, not_false_eq_true, or_false, false_or, or_true, true_or, and_true, true_and, and_false, false_and, ne_eq, eq_self, or_self, and_self]) rfl)
    · have hib : ib (nI (40 * M + j)) 3840 := ib_n (by omega) (by decide)
      have hi40 : ib (nI j) 40 := ib_n (by omega) (by decide)
      unfold dsR
      rw [nI_add, show ix (nI (40 * M + j)) = 40 * M + j from ix_n (by omega), show ix (nI j) = j from ix_n (by omega)]
      rcases h j hj with z | ⟨d, z1, z2⟩
      · rw [if_neg (show ¬ decide (u.1 230 (40 * M + j) ≠ nM ∧ u.1 231 j = nI 0) = true by rw [decide_eq_false (fun y => y.1 z)]; decide)]
        refine eq_wp (wpf (by simp (disch := first | omega | decide) only [↓neg1, nlit, rI, rL, rI2, rL1, nI_add, pk_mul, sbT, dvT, nmd, ixT, ↓ibT, ltT, ltF, leT, leF, eqT, eqF, nM_ltT, nM_ltF, nM_leT, nM_leF, nM_eqF, nM_eqF', nbT0, nbT1, oI_s, oI_n, natF, natT, nltT, nltF, nleT, nleF, ↓reduceIte, lgc, not_true_eq_false, not_false_eq_true, or_false, false_or, or_true, true_or, and_true, true_and, and_false, false_and, ne_eq, eq_self, or_self, and_self]) (wpt hib (wpj (wpt (by rw [z]; decide) (wpl ?_)))))
        rw [nI_1]
        rfl
      · have hne : u.1 230 (40 * M + j) ≠ nM := by
          rw [z2]
          exact nI_nM z1
        have hp : ¬ u.1 230 (40 * M + j) < 0 := by
          rw [z2]
          exact nI_pos (by omega)
        by_cases e : u.1 231 j = nI 0
        · rw [if_pos (decide_eq_true ⟨hne, e⟩)]
          exact eq_wp (wpf (by simp (disch := first | omega | decide) only [↓neg1, nlit, rI, rL, rI2, rL1, nI_add, pk_mul, sbT, dvT, nmd, ixT, ↓ibT, ltT, ltF, leT, leF, eqT, eqF, nM_ltT, nM_ltF, nM_leT, nM_leF, nM_eqF, nM_eqF', nbT0, nbT1, oI_s, oI_n, natF, natT, nltT, nltF, nleT, nleF, ↓reduceIte, lgc, not_true_eq_false, not_false_eq_true, or_false, false_or, or_true, true_or, and_true, true_and, and_false, false_and, ne_eq, eq_self, or_self, and_self]) (wpt hib (wpj (wpf hp (wpt hi40 (wpt e rfl))))))
        · rw [if_neg (show ¬ decide (u.1 230 (40 * M + j) ≠ nM ∧ u.1 231 j = nI 0) = true by rw [decide_eq_false (fun y => e y.2)]; decide)]
          refine eq_wp (wpf (by simp (disch := first | omega | decide) only [↓neg1, nlit, rI, rL, rI2, rL1, nI_add, pk_mul, sbT, dvT, nmd, ixT, ↓ibT, ltT, ltF, leT, leF, eqT, eqF, nM_ltT, nM_ltF, nM_leT, nM_leF, nM_eqF, nM_eqF', nbT0, nbT1, oI_s, oI_n, natF, natT, nltT, nltF, nleT, nleF, ↓reduceIte, lgc, not_true_eq_false, not_false_eq_true, or_false, false_or, or_true, true_or, and_true, true_and, and_false, false_and, ne_eq, eq_self, or_self, and_self]) (wpt hib (wpj (wpf hp (wpt hi40 (wpf e (wpl ?_)))))))
          rw [nI_1]
          rfl
  refine key.trans ?_
  cases ff (fun i => decide (u.1 230 (40 * M + i) ≠ nM ∧ u.1 231 i = nI 0)) na <;> rfl
theorem cnt_one {p q : Nat → Bool} : ∀ {t j : Nat}, j < t → p j = false → q j = true → (∀ i, i < t → i ≠ j → q i = p i) → cntN q t = cntN p t + 1
  | 0, j, h, _, _, _ => absurd h (Nat.not_lt_zero _)
  | t + 1, j, h, h1, h2, h3 => by
    rw [cntN_s, cntN_s]
    by_cases e : j = t
    · subst e
      rw [h1, h2, if_pos rfl, if_neg (by decide)]
      have : ∀ s, s ≤ j → cntN q s = cntN p s := fun s => by
        induction s with
        | zero => exact fun _ => rfl
        | succ s ih =>
          intro hs
          rw [cntN_s, cntN_s, ih (by omega), h3 s (by omega) (by omega)]
      rw [this j (Nat.le_refl _)]
    · rw [cnt_one (by omega) h1 h2 (fun i hi z => h3 i (by omega) z), h3 t (by omega) (fun z => e z.symm)]
      omega
def DSX (c0 u0 : cS) (M a0 na k : Nat) (r : (Int64 × Int32 × cS) ⊕ (cS ⊕ (cS ⊕ cS))) (s : cS ⊕ (cS ⊕ (cS ⊕ (Int32 × cS)))) : Prop := (∃ B' d q, r = .inl (lN B', nI (k + 1), d) ∧ s = .inl q ∧ DPI c0 u0 M a0 na na B' (k + 1) d q) ∨ (∃ z, r = .inr (.inr (.inr z)) ∧ ((∃ y q, s = .inr (.inr (.inr (nI y, q))) ∧ y < 3840 ∧ q.1 174 13 = nI 0 ∧ FLR c0 u0 z (flt q 8 (q.1 213 y))) ∨ (∃ q, s = .inl q ∧ FLR c0 u0 z q)))
set_option maxHeartbeats 8000000 in
theorem dp_stp (hn : 100 ≤ n) (hb : DBS n c0 u0 M a0 na) (h : DPI c0 u0 M a0 na na B k c u) (hB : B ≠ 0) : k < na ∧ jw (dlC n (nI a0) (nI na) (lN B, nI k, c)) (dlR n (nI (40 * M)) (nI na) u) (DSX c0 u0 M a0 na k) := by
  obtain ⟨hC, hM, ha0, ⟨hna1, hna⟩, h130, hac, hA⟩ := id hb
  obtain ⟨x, hlow⟩ := low_ex hB
  obtain ⟨h1, h2, h3, h4, h5, ⟨h6, h7⟩, h8, h9⟩ := id h
  have hx := low_lt hlow h6
  have hB40 : B < 2 ^ 40 := Nat.lt_of_lt_of_le h6 (Nat.pow_le_pow_right (by decide) hna)
  obtain ⟨hxD, hx0⟩ := (h7 x hx).mp hlow.1
  obtain ⟨d, hd8, hd⟩ : ∃ d, d ≤ 8 ∧ u.1 230 (40 * M + x) = nI d := by
    rcases (h3 x hx).2 with z | z
    · exact absurd z hxD
    · exact z
  have hkn : k < na := by
    have y1 := cntN_slt (p := fun i => decide (u.1 231 i = nI 1)) (q := fun _ => true) (j := x) na hx (fun _ _ _ => rfl) (decide_eq_false (by rw [hx0]; decide)) rfl
    have y2 := cntN_le (p := fun _ => true) na
    omega
  refine ⟨hkn, ?_⟩
  have u13 : u.1 174 13 = nI 0 := by
    rw [h2.1 _ _ (decide_eq_false (by omega))]
    exact h130
  obtain ⟨op, ho, o211, oop, o124, o130, og⟩ := DBS_g hb hx
  have hia : ib (nI (a0 + x)) 1024 := ib_n (by omega) (by decide)
  have ea : ix (nI (a0 + x)) = a0 + x := ix_n (by omega)
  have hib : ib (nI (40 * M + x)) 3840 := ib_n (by omega) (by decide)
  have eb : ix (nI (40 * M + x)) = 40 * M + x := ix_n (by omega)
  have hi40 : ib (nI x) 40 := ib_n (by omega) (by decide)
  -- the ACT is over, in the reference
  obtain ⟨u1, hu1⟩ : ∃ u1, u1 = pI u 231 x (nI 1) := ⟨_, rfl⟩
  have U1 : ∀ A l, ¬ (A = 231 ∧ l = x) → u1.1 A l = u.1 A l := fun A l z => by rw [hu1, rI, if_neg z]
  have U1x : u1.1 231 x = nI 1 := by rw [hu1, rI, if_pos ⟨rfl, rfl⟩]
  have su1 : sx (qDu M) u0 u1 := by
    rw [hu1]
    exact sx_pI h2 (decide_eq_true (by omega))
  have hcutt : ∀ i, (B &&& (B - 1)).testBit i = (B.testBit i && decide (i ≠ x)) := fun i => low_cut hlow
  have hcut : B &&& (B - 1) < 2 ^ na := Nat.lt_of_le_of_lt Nat.and_le_left h6
  have hI1 : DPI c0 u0 M a0 na x (B &&& (B - 1)) (k + 1) c u1 := by
    refine ⟨h1, su1, fun i hi => ?_, ?_, fun i hi => ?_, ⟨hcut, fun i hi => ?_⟩, fun i hi z1 z2 => ?_, ?_⟩
    · rw [U1 _ _ (by omega)]
      exact h3 i hi
    · rw [U1 _ _ (by omega)]
      exact h4
    · by_cases e : i = x
      · rw [e, U1x, U1 _ _ (by omega)]
        exact ⟨Or.inr rfl, fun _ => hxD⟩
      · rw [U1 231 i (by omega), U1 _ _ (by omega)]
        exact h5 i hi
    · rw [hcutt]
      by_cases e : i = x
      · rw [e, U1x, decide_eq_false (fun z => z rfl), Bool.and_false]
        exact ⟨fun z => absurd z (by decide), fun z => absurd z.2 (by decide)⟩
      · rw [U1 231 i (by omega), U1 _ _ (by omega), decide_eq_true e, Bool.and_true]
        exact h7 i hi
    · rw [U1 231 i (by omega)] at z2
      obtain ⟨d', p1, p2, p3, p4, p5, p6⟩ := h8 i hi (by omega) z2
      exact ⟨d', by rw [U1 _ _ (by omega)]; exact p1, p2, p3, p4, fun z => ⟨(p5 z).1, by rw [U1 _ _ (by omega)]; exact (p5 z).2⟩, fun t y1 y2 => by rw [U1 _ _ (by omega)]; exact p6 t y1 y2⟩
    · rw [h9]
      exact (cnt_one (p := fun i => decide (u.1 231 i = nI 1)) (q := fun i => decide (u1.1 231 i = nI 1)) hx (decide_eq_false (by rw [hx0]; decide)) (decide_eq_true U1x) (fun i hi z => by rw [U1 231 i (by omega)])).symm
  obtain ⟨⟨v1, v2, v3, -, -, vT, vG⟩, e1, e2, e3⟩ := DBS_ev hb hx h1 h2
  obtain ⟨⟨-, -, -, v4, v5, -, -⟩, f1, f2, f3⟩ := DBS_ev hb hx h1 su1
  rw [e1] at v1 vT
  rw [e2] at v2 vG
  rw [e3, oop] at v3
  rw [f1] at v4
  rw [f2] at v5
  obtain ⟨T, hT⟩ : ∃ T, T = tkn u0 (40 * M + x) := ⟨_, rfl⟩
  obtain ⟨G, hG⟩ : ∃ G, G = gvn u0 (40 * M + x) := ⟨_, rfl⟩
  rw [← hT] at v1 vT v4
  rw [← hG] at v2 vG v5
  have c125 : c.1 125 (a0 + x) = nI d := by
    rw [(h3 x hx).1]
    exact hd
  have c130 : c.1 130 (a0 + x) = u0.1 213 (40 * M + x) := by
    rw [h1.1 _ _ (decide_eq_false (by omega))]
    exact o130
  have u213 : u1.1 213 (40 * M + x) = u0.1 213 (40 * M + x) := su1.1 _ _ (decide_eq_false (by omega))
  have u230 : u1.1 230 (40 * M + x) = nI d := by
    rw [U1 _ _ (by omega)]
    exact hd
  have u1w : u1.1 174 13 = nI 0 := by
    rw [U1 _ _ (by omega)]
    exact u13
  have hneg := dfn0 ⟨d, by omega⟩ ⟨T, by omega⟩
  dsimp only at hneg
  -- the class up to the ACT
  have hcc : lN B &&& (lN B - 1) = lN (B &&& (B - 1)) := by
    rw [show lN B - 1 = lN (B - 1) from lN_sub (b := 1) (by omega), lN_and _ _ (by omega) (by omega)]
  have hCl : ∀ {r : (Int64 × cS) ⊕ cS} {Q : ((Int64 × Int32 × cS) ⊕ (cS ⊕ (cS ⊕ cS))) → Prop}, d_290 n (nI a0) (nI na) (nI x) c = some r → wp ((Sum.elim (fun r12 : Int64 × cS =>
        lt ((lN (B &&& (B - 1)) ||| r12.1) : Int64) (fun v15 =>
        lt (nI k + 1 : Int32) (fun v18 =>
        some (.inl (v15, v18, r12.2)))))
        (fun z13 : cS => some (.inr (.inr (.inr z13)))) r : Option ((Int64 × Int32 × cS) ⊕ (cS ⊕ (cS ⊕ cS))))) Q → wp (dlC n (nI a0) (nI na) (lN B, nI k, c)) Q := fun {r Q} y1 y2 => by
    unfold dlC
    dsimp only
    rw [hcc]
    refine wpf (by simp (disch := first | omega | decide) only [↓neg1, nlit, rI, rL, rI2, rL1, nI_add, pk_mul, sbT, dvT, nmd, ixT, ↓ibT, ltT, ltF, leT, leF, eqT, eqF, nM_ltT, nM_ltF, nM_leT, nM_leF, nM_eqF, nM_eqF', nbT0, nbT1, oI_s, oI_n, natF, natT, nltT, nltF, nleT, nleF, ↓reduceIte, lgc, not_true_eq_false, not_false_eq_true, or_false, false_or, or_true, true_or, and_true, true_and, and_false, false_and, ne_eq, eq_self, or_self, and_self]) (wpf ?_ (wpe (e483 hlow hB40) (wpl (wpe y1 y2))))
    show ¬ lg_cmp (lN B) 0 = nI 0
    rw [lgc]
    exact lNne (by omega) (by omega)
  -- the reference up to the ACT
  have hsk : whl (dsR (nI (40 * M)) (nI na) u) n 0 = some (nI x) := by
    rw [seek_r hn hM hna (fun i hi => (h3 i hi).2), ff_is (j := x) hx (decide_eq_true ⟨hxD, hx0⟩) (fun i hi => decide_eq_false (fun z => by
      have y := hlow.2 i hi
      rw [(h7 i (by omega)).mpr z] at y
      cases y))]
    rfl
  have hRl : ∀ {s : cS ⊕ (cS ⊕ (cS ⊕ (Int32 × cS)))}, d2R n (nI (40 * M)) (nI na) (nI x) u1 = some s → dlR n (nI (40 * M)) (nI na) u = some s := fun {s} y => by
    unfold dlR
    refine eq_wp (wpt u13 (wpe hsk (wpf (by simp (disch := first | omega | decide) only [↓neg1, nlit, rI, rL, rI2, rL1, nI_add, pk_mul, sbT, dvT, nmd, ixT, ↓ibT, ltT, ltF, leT, leF, eqT, eqF, nM_ltT, nM_ltF, nM_leT, nM_leF, nM_eqF, nM_eqF', nbT0, nbT1, oI_s, oI_n, natF, natT, nltT, nltF, nleT, nleF, ↓reduceIte, lgc, not_true_eq_false, not_false_eq_true, or_false, false_or, or_true, true_or, and_true, true_and, and_false, false_and, ne_eq, eq_self, or_self, and_self]) (wpt hi40 (wpl ?_)))))
    rw [show ix (nI x) = x from ix_n (by omega), show vp_nar .boolean 1 = nI 1 from rfl, ← hu1]
    exact wp_of y rfl
  have sc0 := qDc_c h1
  have su0 := qDu_u su1
  -- a FAULT at the ACT itself
  have hflt : FLR c0 u0 (flC c 8 (u0.1 213 (40 * M + x))) (flt u1 8 (u1.1 213 (40 * M + x))) := by
    rw [u213]
    exact FLR_of sc0 su0
  have hg61 : ∀ {p : Int32} {Q : (Int64 × cS) ⊕ cS → Prop}, p = (if (op ≠ 21 ∧ op ≠ 27) ∧ na ≤ x + 1 then 1 else 0) → wp (if ib (nI (a0 + x)) 1024 then
    jn (d8C n (nI a0) (nI x) (nI (a0 + x)) ((nI d - nI T) + nI G))
    (fun j113 =>
    jn (fun p26 : Unit =>
      if ib (nI (a0 + x)) 1024 then
      Option.bind (d_41 n 8 (u0.1 213 (40 * M + x)) c) (Sum.elim (fun r28 =>
      j113 r28)
      (fun z29 => some (.inr z29)))
      else none)
    (fun j97 =>
    if (nI d) < nI T then
      j97 ()
    else
      if 8 < ((nI d - nI T) + nI G) then
        j97 ()
      else
        if p = 0 then
          j113 c
        else
          j97 ()))
    else none) Q → wp (d_290 n (nI a0) (nI na) (nI x) c) Q := fun {p Q} hp y => by
    rw [d290_s, nI_add]
    refine wpl (wpt hia (wpe v1 (wpe v2 ?_)))
    rw [ea, c125, c130]
    refine wpl (wpe v3 (wpj (wpj ?_)))
    by_cases g : op ≠ 21 ∧ op ≠ 27
    · rw [if_pos g]
      refine wpf (by decide) ?_
      rw [nI_1]
      by_cases g2 : na ≤ x + 1
      · rw [if_pos ⟨g, g2⟩] at hp
        subst hp
        exact wpf (by simp (disch := first | omega | decide) only [↓neg1, nlit, rI, rL, rI2, rL1, nI_add, pk_mul, sbT, dvT, nmd, ixT, ↓ibT, ltT, ltF, leT, leF, eqT, eqF, nM_ltT, nM_ltF, nM_leT, nM_leF, nM_eqF, nM_eqF', nbT0, nbT1, oI_s, oI_n, natF, natT, nltT, nltF, nleT, nleF, ↓reduceIte, lgc, not_true_eq_false, not_false_eq_true, or_false, false_or, or_true, true_or, and_true, true_and, and_false, false_and, ne_eq, eq_self, or_self, and_self]) (wpe v1 y)
      · rw [if_neg (fun z => g2 z.2)] at hp
        subst hp
        exact wpt (by simp (disch := first | omega | decide) only [↓neg1, nlit, rI, rL, rI2, rL1, nI_add, pk_mul, sbT, dvT, nmd, ixT, ↓ibT, ltT, ltF, leT, leF, eqT, eqF, nM_ltT, nM_ltF, nM_leT, nM_leF, nM_eqF, nM_eqF', nbT0, nbT1, oI_s, oI_n, natF, natT, nltT, nltF, nleT, nleF, ↓reduceIte, lgc, not_true_eq_false, not_false_eq_true, or_false, false_or, or_true, true_or, and_true, true_and, and_false, false_and, ne_eq, eq_self, or_self, and_self]) (wpe v1 y)
    · rw [if_neg g]
      rw [if_neg (fun z => g z.1)] at hp
      subst hp
      exact wpt rfl (wpe v1 y)
  obtain ⟨p, hp⟩ : ∃ p : Int32, p = (if (op ≠ 21 ∧ op ≠ 27) ∧ na ≤ x + 1 then 1 else 0) := ⟨_, rfl⟩
  have hR0 : ∀ {Q : (cS ⊕ (cS ⊕ (cS ⊕ (Int32 × cS)))) → Prop}, wp (if nI d - nI T < 0 then
              some (.inr (.inr (.inr (nI (40 * M + x), u1))))
            else
              Option.bind (d_418 n (nI (40 * M + x)) u1) (fun v45 =>
              if (nI d - nI T + v45) ≤ 8 then
                Option.bind (d_418 n (nI (40 * M + x)) u1) (fun v46 =>
                lt ((nI d - nI T + v46) : Int32) (fun v48 =>
                d3R n (nI (40 * M)) (nI na) (nI x) (nI (40 * M + x)) v48 u1))
              else
                some (.inr (.inr (.inr (nI (40 * M + x), u1)))))) Q → wp (d2R n (nI (40 * M)) (nI na) (nI x) u1) Q := fun {Q} y => by
    unfold d2R
    rw [nI_add]
    refine wpl (wpt hib (wpe v4 ?_))
    rw [eb, u230]
    exact wpl y
  by_cases ed : d < T
  · have hlt : nI d < nI T := nI_lt ed (by omega)
    have q1 : d_290 n (nI a0) (nI na) (nI x) c = some (.inr (flC c 8 (u0.1 213 (40 * M + x)))) := eq_wp (hg61 hp (wpt hia (wpj (wpj (wpt hlt (wpt hia (wpe e41 (wpSr rfl))))))))
    exact hCl q1 (wpSr (wp_of rfl (wp_of (hRl (eq_wp (hR0 (wpt (hneg.mpr ed) rfl)))) (Or.inr ⟨_, rfl, Or.inl ⟨40 * M + x, u1, rfl, by omega, u1w, hflt⟩⟩))))
  have hnlt : ¬ nI d < nI T := nI_nlt (by omega) (by omega)
  have esub : nI d - nI T = nI (d - T) := pk_sub (by omega)
  obtain ⟨E, hE⟩ : ∃ E, E = d - T + G := ⟨_, rfl⟩
  have esum : nI (d - T) + nI G = nI E := by rw [nI_add, hE]
  have hneg0 : ¬ nI d - nI T < 0 := fun z => ed (hneg.mp z)
  by_cases e8 : 8 < E
  · have h8' : (8 : Int32) < nI E := nI_lt (a := 8) e8 (by omega)
    have q1 : d_290 n (nI a0) (nI na) (nI x) c = some (.inr (flC c 8 (u0.1 213 (40 * M + x)))) := eq_wp (hg61 hp (by
      rw [esub, esum]
      exact wpt hia (wpj (wpj (wpf hnlt (wpt h8' (wpt hia (wpe e41 (wpSr rfl)))))))))
    have q2 : d2R n (nI (40 * M)) (nI na) (nI x) u1 = some (.inr (.inr (.inr (nI (40 * M + x), u1)))) := eq_wp (hR0 (wpf hneg0 (wpe v5 (by
      rw [esub, esum]
      exact wpf (nI_ge (a := 8) (by omega) (by omega)) rfl))))
    exact hCl q1 (wpSr (wp_of rfl (wp_of (hRl q2) (Or.inr ⟨_, rfl, Or.inl ⟨40 * M + x, u1, rfl, by omega, u1w, hflt⟩⟩))))
  have h8' : ¬ (8 : Int32) < nI E := nI_nlt (a := 8) (by omega) (by omega)
  have hR1 : ∀ {s : cS ⊕ (cS ⊕ (cS ⊕ (Int32 × cS)))}, d3R n (nI (40 * M)) (nI na) (nI x) (nI (40 * M + x)) (nI E) u1 = some s → d2R n (nI (40 * M)) (nI na) (nI x) u1 = some s := fun {s} y => eq_wp (hR0 (wpf hneg0 (wpe v5 (by
    rw [esub, esum]
    refine wpt (nI_le (b := 8) (by omega) (by omega)) (wpe v5 (wpl ?_))
    rw [esum]
    exact wp_of y rfl))))
  by_cases eg : (op ≠ 21 ∧ op ≠ 27) ∧ na ≤ x + 1
  · rw [if_pos eg] at hp
    have q1 : d_290 n (nI a0) (nI na) (nI x) c = some (.inr (flC c 8 (u0.1 213 (40 * M + x)))) := eq_wp (hg61 (p := 1) (by rw [if_pos eg]) (by
      rw [esub, esum]
      exact wpt hia (wpj (wpj (wpf hnlt (wpf h8' (wpf (by decide) (wpt hia (wpe e41 (wpSr rfl))))))))))
    have u216 : (flt u1 8 (u1.1 213 (40 * M + x))).1 216 (40 * M + x) = nM ∨ ∃ t, t < 40 ∧ (flt u1 8 (u1.1 213 (40 * M + x))).1 216 (40 * M + x) = nI t := by
      rw [flt_at.2.2.2 216 (40 * M + x) (by omega), su1.1 _ _ (decide_eq_false (by omega))]
      rcases og with y | ⟨t, y1, y2⟩
      · exact Or.inl y
      · exact Or.inr ⟨t, by omega, y2⟩
    obtain ⟨q', s1, s2⟩ := d4R_w (n := n) (y := nI E) (x := x) (u := flt u1 8 (u1.1 213 (40 * M + x))) hM (by omega) flt_at.1 u216
    have u211 : u1.1 211 (40 * M + x) = nI op := by
      rw [su1.1 _ _ (decide_eq_false (by omega))]
      exact o211
    have q2 : d3R n (nI (40 * M)) (nI na) (nI x) (nI (40 * M + x)) (nI E) u1 = some (.inl q') := by
      unfold d3R
      rw [eb, u211, nI_1]
      exact eq_wp (wpt hib (wpj (wpf (by simp (disch := first | omega | decide) only [↓neg1, nlit, rI, rL, rI2, rL1, nI_add, pk_mul, sbT, dvT, nmd, ixT, ↓ibT, ltT, ltF, leT, leF, eqT, eqF, nM_ltT, nM_ltF, nM_leT, nM_leF, nM_eqF, nM_eqF', nbT0, nbT1, oI_s, oI_n, natF, natT, nltT, nltF, nleT, nleF, ↓reduceIte, lgc, not_true_eq_false, not_false_eq_true, or_false, false_or, or_true, true_or, and_true, true_and, and_false, false_and, ne_eq, eq_self, or_self, and_self]) (wpt hib (wpf (by simp (disch := first | omega | decide) only [↓neg1, nlit, rI, rL, rI2, rL1, nI_add, pk_mul, sbT, dvT, nmd, ixT, ↓ibT, ltT, ltF, leT, leF, eqT, eqF, nM_ltT, nM_ltF, nM_leT, nM_leF, nM_eqF, nM_eqF', nbT0, nbT1, oI_s, oI_n, natF, natT, nltT, nltF, nleT, nleF, ↓reduceIte, lgc, not_true_eq_false, not_false_eq_true, or_false, false_or, or_true, true_or, and_true, true_and, and_false, false_and, ne_eq, eq_self, or_self, and_self]) (wpt (by rw [show x + 1 = na by omega]) (wpt hib (wpe (e97 u1w) (wp_of s1 rfl)))))))))
    exact hCl q1 (wpSr (wp_of rfl (wp_of (hRl (hR1 q2)) (Or.inr ⟨_, rfl, Or.inr ⟨q', rfl, FLR_230 hflt s2⟩⟩))))
  rw [if_neg eg] at hp
  have hG1 := gq1 (n := n) (op := op) (E := E) hI1 hx ha0 hM hna (by omega) u1w og o124 (fun t ht => by
    obtain ⟨_, -, -, -, -, z, -⟩ := DBS_g hb ht
    exact z) ho.2 o211 v3 (fun z => by
    by_cases y : na ≤ x + 1
    · exact absurd ⟨z, y⟩ eg
    · omega)
  rcases hG1 with ⟨b2, c2, v2', p1, p2, p3, p4, p5, p6, p7⟩ | ⟨z, q, p1, p2, p3⟩
  · have q1 : d_290 n (nI a0) (nI na) (nI x) c = some (.inl (lN b2, c2)) := eq_wp (hg61 (p := 0) (by rw [if_neg eg]) (by
      rw [esub, esum]
      exact wpt hia (wpj (wpj (wpf hnlt (wpf h8' (wpt rfl (wp_of p1 rfl))))))))
    refine hCl q1 (wpSl (wpl (wpl (wp_of (a := .inl (lN ((B &&& (B - 1)) ||| b2), nI (k + 1), c2)) ?_ (wp_of (hRl (hR1 p2)) (Or.inl ⟨_, _, _, rfl, rfl, ?_⟩))))))
    · have hbb : B &&& (B - 1) ≤ B := Nat.and_le_left
      rw [nI_1, lN_or _ _ (by omega) (by omega)]
    · obtain ⟨a1, a2, a3, a4, a5, a6, a7, a8⟩ := p4
      have v230 : v2'.1 230 (40 * M + x) = nI d := by
        rw [p5 _ (by rw [u230]; exact nI_nM hd8)]
        exact u230
      refine ⟨a1, a2, a3, a4, a5, a6, fun i hi z1 z2 => ?_, a8⟩
      by_cases e : i = x
      · subst e
        refine ⟨d, v230, by omega, hd8, by omega, fun z => ?_, fun t y1 y2 => ?_⟩
        · unfold goesN at z
          rw [oop] at z
          refine ⟨?_, ?_⟩
          · by_cases y : na ≤ i + 1
            · exact absurd ⟨z, y⟩ eg
            · omega
          · rw [← hT, ← hG, ← hE]
            exact p6 z
        · rw [← hT, ← hG, ← hE]
          exact p7 t y1 y2
      · exact a7 i hi e z2
  · have q1 : d_290 n (nI a0) (nI na) (nI x) c = some (.inr z) := eq_wp (hg61 (p := 0) (by rw [if_neg eg]) (by
      rw [esub, esum]
      exact wpt hia (wpj (wpj (wpf hnlt (wpf h8' (wpt rfl (wp_of p1 rfl))))))))
    exact hCl q1 (wpSr (wp_of rfl (wp_of (hRl (hR1 p2)) (Or.inr ⟨_, rfl, Or.inr ⟨q, rfl, FLR_tr p3 sc0 su0⟩⟩))))
end DPM
