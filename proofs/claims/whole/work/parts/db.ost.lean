/-! READING an ORDER: the class settles it -/
section OST
variable {n m a b k o N : Nat} {c d w : cS} {R W : Nat → Nat → Bool} {p q : Nat → Bool} {x y : Int32}
theorem andn0 {u v : Nat} (hu : u < 2 ^ N) (hN : N ≤ 31) : (nI u &&& (nI v ^^^ (-1)) = 0) ↔ ∀ b, b < N → u.testBit b = true → v.testBit b = true := by
  have hL : ∀ w b : Nat, b < 32 → (nI w).toBitVec.getLsbD b = w.testBit b := fun w b hb => by
    show (BitVec.ofNat 32 w).getLsbD b = _
    rw [BitVec.getLsbD_ofNat, decide_eq_true hb, Bool.true_and]
  have h1 : (-1 : Int32).toBitVec = BitVec.allOnes 32 := by decide
  rw [← Int32.toBitVec_inj, Int32.toBitVec_and, Int32.toBitVec_xor, h1]
  constructor
  · intro h b hb hub
    have h2 := congrArg (fun z : BitVec 32 => z.getLsbD b) h
    rw [BitVec.getLsbD_and, BitVec.getLsbD_xor, BitVec.getLsbD_allOnes, hL u b (by omega), hL v b (by omega), hub, decide_eq_true (show b < 32 by omega), show (0 : Int32).toBitVec.getLsbD b = false from BitVec.getLsbD_zero] at h2
    cases hv : v.testBit b with
    | true => rfl
    | false =>
      rw [hv] at h2
      cases h2
  · intro h
    apply BitVec.eq_of_getLsbD_eq
    intro b hb
    rw [BitVec.getLsbD_and, BitVec.getLsbD_xor, BitVec.getLsbD_allOnes, hL u b hb, hL v b hb, decide_eq_true hb, show (0 : Int32).toBitVec.getLsbD b = false from BitVec.getLsbD_zero]
    cases hub : u.testBit b with
    | false => rfl
    | true =>
      have hbN : b < N := Nat.lt_of_not_le (fun z => by
        have := Nat.testBit_lt_two_pow (Nat.lt_of_lt_of_le hu (Nat.pow_le_pow_right (by decide) z))
        rw [hub] at this
        cases this)
      rw [h b hbN hub]
      rfl
theorem e243 {A : Nat} (hn : 100 ≤ n) (hN : N ≤ 12) (h1 : c.1 (oA o) 1 = nI N) (hx : BRb x N p) (hR : ROWb c A N W) : d_243 n o x A 12 c = some (oI (ff (fun e => p e && allN (fun d => !(p d) || W e d) N) N)) := by
  obtain ⟨u, u1, u2, u3, u4⟩ := BRb_31 hx hN
  subst u3
  unfold d_243
  refine bwf (fun k => nI k) (Sum.inl ()) (fun k => Sum.inr (nI k)) (fun e => p e && allN (fun d => !(p d) || W e d) N) (cnt := N) (by omega) rfl ?_ (fun j hj => ?_) ?_
  · refine eq_wp ?_
    rw [h1]
    exact wpt (by simp (disch := first | omega | decide) only [↓neg1, nlit, rI, rL, rI2, rL1, nI_add, pk_mul, sbT, dvT, nmd, ixT, ↓ibT, ltT, ltF, leT, leF, eqT, eqF, nM_ltT, nM_ltF, nM_leT, nM_leF, nM_eqF, nM_eqF', nbT0, nbT1, oI_s, oI_n, natF, natT, nltT, nltF, nleT, nleF, ↓reduceIte, lgc, not_true_eq_false, not_false_eq_true, or_false, false_or, or_true, true_or, and_true, true_and, and_false, false_and, ne_eq, eq_self, or_self, and_self]) rfl
  · refine eq_wp ?_
    rw [h1]
    obtain ⟨v, v1, v2, v3, v4⟩ := BRb_31 (hR j hj) hN
    refine wpf (by simp (disch := first | omega | decide) only [↓neg1, nlit, rI, rL, rI2, rL1, nI_add, pk_mul, sbT, dvT, nmd, ixT, ↓ibT, ltT, ltF, leT, leF, eqT, eqF, nM_ltT, nM_ltF, nM_leT, nM_leF, nM_eqF, nM_eqF', nbT0, nbT1, oI_s, oI_n, natF, natT, nltT, nltF, nleT, nleF, ↓reduceIte, lgc, not_true_eq_false, not_false_eq_true, or_false, false_or, or_true, true_or, and_true, true_and, and_false, false_and, ne_eq, eq_self, or_self, and_self]) (wpj ?_)
    by_cases e : p j = true
    · refine wpf (fun z => ?_) (wpt (by simp (disch := first | omega | decide) only [↓neg1, nlit, rI, rL, rI2, rL1, nI_add, pk_mul, sbT, dvT, nmd, ixT, ↓ibT, ltT, ltF, leT, leF, eqT, eqF, nM_ltT, nM_ltF, nM_leT, nM_leF, nM_eqF, nM_eqF', nbT0, nbT1, oI_s, oI_n, natF, natT, nltT, nltF, nleT, nleF, ↓reduceIte, lgc, not_true_eq_false, not_false_eq_true, or_false, false_or, or_true, true_or, and_true, true_and, and_false, false_and, ne_eq, eq_self, or_self, and_self]) ?_)
      · have := (bit_n u1 (by omega)).mp z
        rw [u4 j hj, e] at this
        cases this
      rw [ix_n (by omega), v3]
      have hiff : (nI u &&& (nI v ^^^ (-1)) = 0) ↔ allN (fun d => !(p d) || W j d) N = true := by
        rw [andn0 u2 (by omega), allN_iff]
        constructor
        · intro h d hd
          have := h d hd
          rw [u4 d hd, v4 d hd] at this
          cases hp : p d with
          | false => rfl
          | true => exact this hp
        · intro h d hd hp
          rw [u4 d hd] at hp
          have := h d hd
          rw [hp] at this
          rw [v4 d hd]
          exact this
      rw [e, Bool.true_and]
      by_cases e2 : allN (fun d => !(p d) || W j d) N = true
      · rw [if_pos e2]
        exact wpt (hiff.mpr e2) rfl
      · rw [if_neg e2, ← nI_1]
        exact wpf (fun z => e2 (hiff.mp z)) (wpl rfl)
    · have e' : p j = false := by simpa using e
      refine wpt ((bit_n u1 (by omega)).mpr ((u4 j hj).trans e')) (wpl ?_)
      rw [e', Bool.false_and, nI_1]
      rfl
  · cases ff _ _ <;> rfl
theorem e243l {A : Nat} (hn : 100 ≤ n) (hN : N ≤ 12) (h1 : c.1 (oA o) 1 = nI N) (hR : ROWb c A N W) (ha : a < N) (hb : b < N) : d_243 n o (c.1 A a &&& c.1 A b) A 12 c = some (oI (lbO W N a b)) := e243 hn hN h1 (BRb_and (hR a ha) (hR b hb)) hR
def qOS (o A j : Nat) : Bool := decide ((A = oA o ∧ (j = 2 ∨ j = 3)) ∨ (oA o + 2 ≤ A ∧ A ≤ oA o + 5))
/-- tables of joins and meets, as far as they are made -/
def OTB (c : cS) (o N : Nat) (W : Nat → Nat → Bool) (S : Nat → Nat → Prop) : Prop := ∀ a b, a < N → b < N → S a b → gdP W N a b = true ∧ c.1 (oA o + 4) (a * 12 + b) = oI (lbO W N a b) ∧ c.1 (oA o + 5) (a * 12 + b) = oI (lbO (trn W) N a b)
theorem ROWb_sx {A : Nat} {r : Nat → Nat → Bool} (h : ROWb c A N W) (hs : sx r c d) (hr : ∀ j, r A j = false) : ROWb d A N W := fun a ha => by
  rw [hs.1 A a (hr a)]
  exact h a ha
def OSP (c : cS) (o N : Nat) (W : Nat → Nat → Bool) (r : Int32 × cS) : Prop := sx (qOS o) c r.2 ∧ ((isOr W N = false ∧ r.1 = 0) ∨ (isOr W N = true ∧ r.1 = 1 ∧ ROWb r.2 (oA o + 2) N W ∧ ROWb r.2 (oA o + 3) N (trn W) ∧ OTB r.2 o N W (fun _ _ => True) ∧ r.2.1 (oA o) 2 = nI (tpF W N (N - 1)) ∧ r.2.1 (oA o) 3 = nI (tpF (trn W) N (N - 1))))
def q45 (o A j : Nat) : Bool := decide (A = oA o + 4 ∨ A = oA o + 5)
theorem e241 (hn : 100 ≤ n) (hN1 : 1 ≤ N) (hN : N ≤ 12) (h1 : c.1 (oA o) 1 = nI N) (hR : ROWb c (oA o + 2) N R) (hr : ∀ a, a < N → R a a = true) : wp (d_241 n o c) (OSP c o N (wcl R N)) := by
  unfold d_241
  refine wpc (e242 hn hN h1 hR) (fun r1 hr1 => ?_)
  obtain ⟨r2, r3, r4⟩ := hr1
  have hWr : ∀ a, a < N → wcl R N a a = true := fun a ha => wcl_R (hr a ha) N
  have hWt : ∀ a b d, a < N → b < N → d < N → wcl R N a b = true → wcl R N b d = true → wcl R N a d = true := fun a b d _ hb _ => wcl_tr N b hb a d
  generalize wcl R N = W at *
  have h1' : r1.1 (oA o) 1 = nI N := (r4.1 (oA o) 1 (decide_eq_false (by omega))).trans h1
  refine wpc (K' := fun x : cS ⊕ cS => Sum.elim (fun d => OTB d o N W (fun _ _ => True) ∧ sx (q45 o) r1 d) (fun d => isOr W N = false ∧ sx (q45 o) r1 d) x) (whl_cnt (fun k (st : Int32 × cS) => st.1 = nI k ∧ OTB st.2 o N W (fun a _ => a < k) ∧ sx (q45 o) r1 st.2) N ?_ ?_ (by omega) ⟨rfl, fun a b _ _ z => absurd z (Nat.not_lt_zero _), sx_rfl⟩) (fun x hx => ?_)
  · rintro k ⟨k0, w⟩ hk ⟨g1, g2, g3⟩
    dsimp only at g1 g2 g3
    subst g1
    dsimp only
    have w1 : w.1 (oA o) 1 = nI N := (g3.1 (oA o) 1 (decide_eq_false (by omega))).trans h1'
    rw [w1]
    refine wpf (by simp (disch := first | omega | decide) only [↓neg1, nlit, rI, rL, rI2, rL1, nI_add, pk_mul, sbT, dvT, nmd, ixT, ↓ibT, ltT, ltF, leT, leF, eqT, eqF, nM_ltT, nM_ltF, nM_leT, nM_leF, nM_eqF, nM_eqF', nbT0, nbT1, oI_s, oI_n, natF, natT, nltT, nltF, nleT, nleF, ↓reduceIte, lgc, not_true_eq_false, not_false_eq_true, or_false, false_or, or_true, true_or, and_true, true_and, and_false, false_and, ne_eq, eq_self, or_self, and_self]) ?_
    refine wpc (K' := fun x : cS ⊕ cS => Sum.elim (fun d => OTB d o N W (fun a _ => a < k + 1) ∧ sx (q45 o) r1 d) (fun d => isOr W N = false ∧ sx (q45 o) r1 d) x) (whl_cnt (fun j (st : Int32 × cS) => st.1 = nI j ∧ OTB st.2 o N W (fun a b => a < k ∨ (a = k ∧ b < j)) ∧ sx (q45 o) r1 st.2) N ?_ ?_ (by omega) ⟨rfl, fun a b ha hb z => g2 a b ha hb (by omega), g3⟩) (fun x hx => ?_)
    · rintro j ⟨j0, v⟩ hj ⟨y1, y2, y3⟩
      dsimp only at y1 y2 y3
      subst y1
      dsimp only
      have v1 : v.1 (oA o) 1 = nI N := (y3.1 (oA o) 1 (decide_eq_false (by omega))).trans h1'
      have vu := ROWb_sx r2 y3 (fun j => decide_eq_false (by omega))
      have vd := ROWb_sx r3 y3 (fun j => decide_eq_false (by omega))
      rw [v1]
      refine wpf (by simp (disch := first | omega | decide) only [↓neg1, nlit, rI, rL, rI2, rL1, nI_add, pk_mul, sbT, dvT, nmd, ixT, ↓ibT, ltT, ltF, leT, leF, eqT, eqF, nM_ltT, nM_ltF, nM_leT, nM_leF, nM_eqF, nM_eqF', nbT0, nbT1, oI_s, oI_n, natF, natT, nltT, nltF, nleT, nleF, ↓reduceIte, lgc, not_true_eq_false, not_false_eq_true, or_false, false_or, or_true, true_or, and_true, true_and, and_false, false_and, ne_eq, eq_self, or_self, and_self]) (wpt (by simp (disch := first | omega | decide) only [↓neg1, nlit, rI, rL, rI2, rL1, nI_add, pk_mul, sbT, dvT, nmd, ixT, ↓ibT, ltT, ltF, leT, leF, eqT, eqF, nM_ltT, nM_ltF, nM_leT, nM_leF, nM_eqF, nM_eqF', nbT0, nbT1, oI_s, oI_n, natF, natT, nltT, nltF, nleT, nleF, ↓reduceIte, lgc, not_true_eq_false, not_false_eq_true, or_false, false_or, or_true, true_or, and_true, true_and, and_false, false_and, ne_eq, eq_self, or_self, and_self]) (wpt (by simp (disch := first | omega | decide) only [↓neg1, nlit, rI, rL, rI2, rL1, nI_add, pk_mul, sbT, dvT, nmd, ixT, ↓ibT, ltT, ltF, leT, leF, eqT, eqF, nM_ltT, nM_ltF, nM_leT, nM_leF, nM_eqF, nM_eqF', nbT0, nbT1, oI_s, oI_n, natF, natT, nltT, nltF, nleT, nleF, ↓reduceIte, lgc, not_true_eq_false, not_false_eq_true, or_false, false_or, or_true, true_or, and_true, true_and, and_false, false_and, ne_eq, eq_self, or_self, and_self]) ?_))
      rw [ix_n (by omega), ix_n (by omega)]
      refine wpe (e243l hn hN v1 vu hk hj) (wpt (by simp (disch := first | omega | decide) only [↓neg1, nlit, rI, rL, rI2, rL1, nI_add, pk_mul, sbT, dvT, nmd, ixT, ↓ibT, ltT, ltF, leT, leF, eqT, eqF, nM_ltT, nM_ltF, nM_leT, nM_leF, nM_eqF, nM_eqF', nbT0, nbT1, oI_s, oI_n, natF, natT, nltT, nltF, nleT, nleF, ↓reduceIte, lgc, not_true_eq_false, not_false_eq_true, or_false, false_or, or_true, true_or, and_true, true_and, and_false, false_and, ne_eq, eq_self, or_self, and_self]) (wpt (by simp (disch := first | omega | decide) only [↓neg1, nlit, rI, rL, rI2, rL1, nI_add, pk_mul, sbT, dvT, nmd, ixT, ↓ibT, ltT, ltF, leT, leF, eqT, eqF, nM_ltT, nM_ltF, nM_leT, nM_leF, nM_eqF, nM_eqF', nbT0, nbT1, oI_s, oI_n, natF, natT, nltT, nltF, nleT, nleF, ↓reduceIte, lgc, not_true_eq_false, not_false_eq_true, or_false, false_or, or_true, true_or, and_true, true_and, and_false, false_and, ne_eq, eq_self, or_self, and_self]) (wpe (e243l hn hN v1 vd hk hj) ?_)))
      have hbad : gdP W N k j = false → isOr W N = false := fun z => by
        cases hi : isOr W N with
        | false => rfl
        | true =>
          have := allN_iff.mp (allN_iff.mp hi k hk) j hj
          rw [z] at this
          cases this
      cases hu : lbO W N k j with
      | none => exact wpt (by decide) ⟨hbad (by unfold gdP; rw [hu]; simp), y3⟩
      | some ju =>
        have hju := (ff_some hu).1
        refine wpf (by rw [oI_s]; simp (disch := first | omega | decide) only [↓neg1, nlit, rI, rL, rI2, rL1, nI_add, pk_mul, sbT, dvT, nmd, ixT, ↓ibT, ltT, ltF, leT, leF, eqT, eqF, nM_ltT, nM_ltF, nM_leT, nM_leF, nM_eqF, nM_eqF', nbT0, nbT1, oI_s, oI_n, natF, natT, nltT, nltF, nleT, nleF, ↓reduceIte, lgc, not_true_eq_false, not_false_eq_true, or_false, false_or, or_true, true_or, and_true, true_and, and_false, false_and, ne_eq, eq_self, or_self, and_self]) ?_
        cases hd : lbO (trn W) N k j with
        | none => exact wpt (by decide) ⟨hbad (by unfold gdP; rw [hd]; simp), y3⟩
        | some jd =>
          have hjd := (ff_some hd).1
          refine wpf (by rw [oI_s]; simp (disch := first | omega | decide) only [↓neg1, nlit, rI, rL, rI2, rL1, nI_add, pk_mul, sbT, dvT, nmd, ixT, ↓ibT, ltT, ltF, leT, leF, eqT, eqF, nM_ltT, nM_ltF, nM_leT, nM_leF, nM_eqF, nM_eqF', nbT0, nbT1, oI_s, oI_n, natF, natT, nltT, nltF, nleT, nleF, ↓reduceIte, lgc, not_true_eq_false, not_false_eq_true, or_false, false_or, or_true, true_or, and_true, true_and, and_false, false_and, ne_eq, eq_self, or_self, and_self]) ?_
          have hgood : (decide (k = j) || !(W k j) || !(W j k)) = true → wp (if ib (nI k * 12 + nI j) 144 then lt (pI v (oA o + 4) (ix (nI k * 12 + nI j)) (oI (some ju))) (fun c16 => if ib (nI k * 12 + nI j) 144 then lt (pI c16 (oA o + 5) (ix (nI k * 12 + nI j)) (oI (some jd))) (fun c19 => lt (nI j + 1 : Int32) (fun v22 => some (.inl (v22, c19)))) else none) else none) (Sum.elim (fun st : Int32 × cS => st.1 = nI (j + 1) ∧ OTB st.2 o N W (fun a b => a < k ∨ (a = k ∧ b < j + 1)) ∧ sx (q45 o) r1 st.2) (fun x : cS ⊕ cS => Sum.elim (fun d => OTB d o N W (fun a _ => a < k + 1) ∧ sx (q45 o) r1 d) (fun d => isOr W N = false ∧ sx (q45 o) r1 d) x)) := fun z => by
            rw [idx12]
            refine wpt (by simp (disch := first | omega | decide) only [↓neg1, nlit, rI, rL, rI2, rL1, nI_add, pk_mul, sbT, dvT, nmd, ixT, ↓ibT, ltT, ltF, leT, leF, eqT, eqF, nM_ltT, nM_ltF, nM_leT, nM_leF, nM_eqF, nM_eqF', nbT0, nbT1, oI_s, oI_n, natF, natT, nltT, nltF, nleT, nleF, ↓reduceIte, lgc, not_true_eq_false, not_false_eq_true, or_false, false_or, or_true, true_or, and_true, true_and, and_false, false_and, ne_eq, eq_self, or_self, and_self]) ?_
            rw [ix_n (by omega)]
            refine wpl (wpt (by simp (disch := first | omega | decide) only [↓neg1, nlit, rI, rL, rI2, rL1, nI_add, pk_mul, sbT, dvT, nmd, ixT, ↓ibT, ltT, ltF, leT, leF, eqT, eqF, nM_ltT, nM_ltF, nM_leT, nM_leF, nM_eqF, nM_eqF', nbT0, nbT1, oI_s, oI_n, natF, natT, nltT, nltF, nleT, nleF, ↓reduceIte, lgc, not_true_eq_false, not_false_eq_true, or_false, false_or, or_true, true_or, and_true, true_and, and_false, false_and, ne_eq, eq_self, or_self, and_self]) (wpl (wpl ⟨nI_1 j, fun a b ha hb z2 => ?_, sx_pI (sx_pI y3 (decide_eq_true (by omega))) (decide_eq_true (by omega))⟩)))
            show _ ∧ (pI (pI v _ _ _) _ _ _).1 (oA o + 4) (a * 12 + b) = _ ∧ (pI (pI v _ _ _) _ _ _).1 (oA o + 5) (a * 12 + b) = _
            by_cases e : a = k ∧ b = j
            · obtain ⟨rfl, rfl⟩ := e
              refine ⟨?_, ?_, ?_⟩
              · unfold gdP
                rw [z, hu, hd]
                rfl
              · rw [rI, if_neg (by omega), rI, if_pos ⟨rfl, rfl⟩, hu]
              · rw [rI, if_pos ⟨rfl, rfl⟩, hd]
            · have hne : ¬ a * 12 + b = k * 12 + j := by omega
              rw [rI, if_neg (by omega), rI, if_neg (fun z => hne z.2), rI, if_neg (fun z => hne z.2), rI, if_neg (by omega)]
              exact y2 a b ha hb (by omega)
          refine wpj ?_
          by_cases ekj : k = j
          · exact wpt (by rw [ekj]) (hgood (by rw [decide_eq_true ekj]; rfl))
          · refine wpf (fun z => ekj ((nI_eq (by omega) (by omega)).mp z)) (wpe (e237b (by omega) hj hN (vu k hk)) ?_)
            by_cases e1 : W k j = true
            · refine wpf (by rw [if_pos e1]; decide) (wpe (e237b (by omega) hk hN (vu j hj)) ?_)
              by_cases e2 : W j k = true
              · exact wpf (by rw [if_pos e2]; decide) ⟨hbad (by unfold gdP; rw [e1, e2, decide_eq_false ekj]; rfl), y3⟩
              · exact wpt (by rw [if_neg e2]) (hgood (by rw [show W j k = false by simpa using e2]; simp))
            · exact wpt (by rw [if_neg e1]) (hgood (by rw [show W k j = false by simpa using e1]; simp))
    · rintro ⟨j0, v⟩ ⟨y1, y2, y3⟩
      dsimp only at y1 y2 y3
      subst y1
      dsimp only
      have v1 : v.1 (oA o) 1 = nI N := (y3.1 (oA o) 1 (decide_eq_false (by omega))).trans h1'
      rw [v1]
      exact wpt (by simp (disch := first | omega | decide) only [↓neg1, nlit, rI, rL, rI2, rL1, nI_add, pk_mul, sbT, dvT, nmd, ixT, ↓ibT, ltT, ltF, leT, leF, eqT, eqF, nM_ltT, nM_ltF, nM_leT, nM_leF, nM_eqF, nM_eqF', nbT0, nbT1, oI_s, oI_n, natF, natT, nltT, nltF, nleT, nleF, ↓reduceIte, lgc, not_true_eq_false, not_false_eq_true, or_false, false_or, or_true, true_or, and_true, true_and, and_false, false_and, ne_eq, eq_self, or_self, and_self]) ⟨fun a b ha hb z => y2 a b ha hb (by omega), y3⟩
    · cases x with
      | inl x => exact wpl ⟨nI_1 k, hx.1, hx.2⟩
      | inr x => exact hx
  · rintro ⟨k0, w⟩ ⟨g1, g2, g3⟩
    dsimp only at g1 g2 g3
    subst g1
    dsimp only
    have w1 : w.1 (oA o) 1 = nI N := (g3.1 (oA o) 1 (decide_eq_false (by omega))).trans h1'
    rw [w1]
    exact wpt (by simp (disch := first | omega | decide) only [↓neg1, nlit, rI, rL, rI2, rL1, nI_add, pk_mul, sbT, dvT, nmd, ixT, ↓ibT, ltT, ltF, leT, leF, eqT, eqF, nM_ltT, nM_ltF, nM_leT, nM_leF, nM_eqF, nM_eqF', nbT0, nbT1, oI_s, oI_n, natF, natT, nltT, nltF, nleT, nleF, ↓reduceIte, lgc, not_true_eq_false, not_false_eq_true, or_false, false_or, or_true, true_or, and_true, true_and, and_false, false_and, ne_eq, eq_self, or_self, and_self]) ⟨fun a b ha hb _ => g2 a b ha hb ha, g3⟩
  · have s23 : ∀ {z}, sx (q45 o) r1 z → sx (qOS o) c z := fun hz => sx_trans (sx_wide r4 (fun A j z => by
      have := of_decide_eq_false z
      exact decide_eq_false (by omega))) (sx_wide hz (fun A j z => by
      have := of_decide_eq_false z
      exact decide_eq_false (by omega)))
    cases x with
    | inr x => exact ⟨s23 hx.2, Or.inl ⟨hx.1, rfl⟩⟩
    | inl x =>
      obtain ⟨t1, t2⟩ := hx
      have hor : isOr W N = true := allN_iff.mpr (fun a ha => allN_iff.mpr (fun b hb => (t1 a b ha hb trivial).1))
      have hor' := isOr_trn hor
      have tp1 := tpF_ok hor hWr hWt
      have tp2 := tpF_ok hor' hWr (fun a b d ha hb hd z1 z2 => hWt d b a hd hb ha z2 z1)
      refine wpl (wpl ?_)
      have s0 : sx (qOS o) c (pI (pI x (oA o) 2 0) (oA o) 3 0) := sx_pI (sx_pI (s23 t2) (decide_eq_true (by omega))) (decide_eq_true (by omega))
      refine wpc (K' := fun d : cS => sx (qOS o) c d ∧ ROWb d (oA o + 2) N W ∧ ROWb d (oA o + 3) N (trn W) ∧ OTB d o N W (fun _ _ => True) ∧ d.1 (oA o) 2 = nI (tpF W N (N - 1)) ∧ d.1 (oA o) 3 = nI (tpF (trn W) N (N - 1))) (whl_cnt (fun j (st : Int32 × cS) => st.1 = nI (j + 1) ∧ sx (qOS o) c st.2 ∧ sx (fun A i => decide (A = oA o ∧ (i = 2 ∨ i = 3))) x st.2 ∧ st.2.1 (oA o) 2 = nI (tpF W N j) ∧ st.2.1 (oA o) 3 = nI (tpF (trn W) N j)) (N - 1) ?_ ?_ (by omega) ⟨rfl, s0, sx_pI (sx_pI sx_rfl (decide_eq_true (by omega))) (decide_eq_true (by omega)), ?_, ?_⟩) (fun d hd => ⟨hd.1, Or.inr ⟨hor, rfl, hd.2⟩⟩)
      · rintro j ⟨j0, v⟩ hj ⟨y1, y2, y3, y4, y5⟩
        dsimp only at y1 y2 y3 y4 y5
        subst y1
        dsimp only
        have v1 : v.1 (oA o) 1 = nI N := (y2.1 (oA o) 1 (decide_eq_false (by omega))).trans h1
        obtain ⟨p1, -⟩ := tp1 j (by omega)
        obtain ⟨p2, -⟩ := tp2 j (by omega)
        rw [v1, y4]
        refine wpf (by simp (disch := first | omega | decide) only [↓neg1, nlit, rI, rL, rI2, rL1, nI_add, pk_mul, sbT, dvT, nmd, ixT, ↓ibT, ltT, ltF, leT, leF, eqT, eqF, nM_ltT, nM_ltF, nM_leT, nM_leF, nM_eqF, nM_eqF', nbT0, nbT1, oI_s, oI_n, natF, natT, nltT, nltF, nleT, nleF, ↓reduceIte, lgc, not_true_eq_false, not_false_eq_true, or_false, false_or, or_true, true_or, and_true, true_and, and_false, false_and, ne_eq, eq_self, or_self, and_self]) (wpe (e238 (by omega) (by omega)) (wpl ?_))
        have z3 : (pI v (oA o) 2 (v.1 (oA o + 4) (tpF W N j * 12 + (j + 1)))).1 (oA o) 3 = nI (tpF (trn W) N j) := by
          rw [rI, if_neg (by omega)]
          exact y5
        rw [z3]
        refine wpe (e239 (by omega) (by omega)) (wpl (wpl ⟨nI_1 _, sx_pI (sx_pI y2 (decide_eq_true (by omega))) (decide_eq_true (by omega)), sx_pI (sx_pI y3 (decide_eq_true (by omega))) (decide_eq_true (by omega)), ?_, ?_⟩))
        · show (pI (pI v _ _ _) _ _ _).1 (oA o) 2 = _
          rw [rI, if_neg (by omega), rI, if_pos ⟨rfl, rfl⟩, y3.1 (oA o + 4) _ (decide_eq_false (by omega)), (t1 (tpF W N j) (j + 1) p1 (by omega) trivial).2.1]
          obtain ⟨-, ⟨q, -, q2, -⟩, -⟩ := isOr_at hor p1 (show j + 1 < N by omega)
          show oI _ = nI ((lbO W N (tpF W N j) (j + 1)).getD 0)
          rw [q2]
          rfl
        · show (pI (pI v _ _ _) _ _ _).1 (oA o) 3 = _
          rw [rI, if_pos ⟨rfl, rfl⟩, rI, if_neg (by omega), y3.1 (oA o + 5) _ (decide_eq_false (by omega)), (t1 (tpF (trn W) N j) (j + 1) p2 (by omega) trivial).2.2]
          obtain ⟨-, ⟨q, -, q2, -⟩, -⟩ := isOr_at hor' p2 (show j + 1 < N by omega)
          show oI _ = nI ((lbO (trn W) N (tpF (trn W) N j) (j + 1)).getD 0)
          rw [q2]
          rfl
      · rintro ⟨j0, v⟩ ⟨y1, y2, y3, y4, y5⟩
        dsimp only at y1 y2 y3 y4 y5
        subst y1
        dsimp only
        have v1 : v.1 (oA o) 1 = nI N := (y2.1 (oA o) 1 (decide_eq_false (by omega))).trans h1
        rw [v1]
        refine wpt (by rw [show N - 1 + 1 = N by omega]; simp (disch := first | omega | decide) only [↓neg1, nlit, rI, rL, rI2, rL1, nI_add, pk_mul, sbT, dvT, nmd, ixT, ↓ibT, ltT, ltF, leT, leF, eqT, eqF, nM_ltT, nM_ltF, nM_leT, nM_leF, nM_eqF, nM_eqF', nbT0, nbT1, oI_s, oI_n, natF, natT, nltT, nltF, nleT, nleF, ↓reduceIte, lgc, not_true_eq_false, not_false_eq_true, or_false, false_or, or_true, true_or, and_true, true_and, and_false, false_and, ne_eq, eq_self, or_self, and_self]) ⟨y2, ROWb_sx (ROWb_sx r2 t2 (fun j => decide_eq_false (by omega))) y3 (fun j => decide_eq_false (by omega)), ROWb_sx (ROWb_sx r3 t2 (fun j => decide_eq_false (by omega))) y3 (fun j => decide_eq_false (by omega)), fun a b ha hb z => ?_, y4, y5⟩
        rw [y3.1 (oA o + 4) _ (decide_eq_false (by omega)), y3.1 (oA o + 5) _ (decide_eq_false (by omega))]
        exact t1 a b ha hb z
      · show (pI (pI x _ _ _) _ _ _).1 (oA o) 2 = _
        rw [rI, if_neg (by omega), rI, if_pos ⟨rfl, rfl⟩]
        rfl
      · show (pI (pI x _ _ _) _ _ _).1 (oA o) 3 = _
        rw [rI, if_pos ⟨rfl, rfl⟩]
        rfl
end OST
