/-! READING an ORDER, whole -/
section RDP
variable {n i N o E oc kc mc cc : Nat} {c d u w : cS} {K P : Nat → Nat} {V : Nat → Int64} {R W : Nat → Nat → Bool}
/-- the reference's ORDER before anything is told -/
def iniR (n : Nat) (v8 : Int32) (c11 : cS) : Option cS := whl (R := (cS)) (fun s14 : Int32 × cS =>
      if 12 ≤ s14.1 then
        some (.inr s14.2)
      else
        Option.bind (whl (R := (cS)) (fun s16 : Int32 × cS =>
          if 12 ≤ s16.1 then
            some (.inr s16.2)
          else
            Option.bind (d_385 n v8 s14.1 s16.1) (fun v17 =>
            jn (fun p18 : Int32 =>
              if ib v17 576 then
              lt (pI s16.2 184 (ix v17) (vp_nar .boolean p18)) (fun c20 =>
              lt (s16.1 + 1 : Int32) (fun v23 =>
              some (.inl (v23, c20))))
              else none)
            (fun j89 =>
            if s14.1 = s16.1 then
              j89 1
            else
              j89 0))) n (0, s14.2))
        (fun x25 : cS =>
          lt (s14.1 + 1 : Int32) (fun v27 =>
          some (.inl (v27, x25))))) n (0, c11)
theorem nar_bI {x : Bool} : vp_nar .boolean (bI x) = bI x := by
  cases x <;> decide
theorem ini_r (hn : 100 ≤ n) (ho : o < 4) : wp (iniR n (nI o) u) (fun d => (∀ a b, a < 12 → b < 12 → d.1 184 (ci o a b) = bI (decide (a = b))) ∧ sx (q184 o) u d) := by
  unfold iniR
  refine whl_cnt (fun k (st : Int32 × cS) => st.1 = nI k ∧ (∀ a b, a < k → b < 12 → st.2.1 184 (ci o a b) = bI (decide (a = b))) ∧ sx (q184 o) u st.2) 12 ?_ ?_ (by omega) ⟨rfl, fun a b ha => absurd ha (Nat.not_lt_zero _), sx_rfl⟩
  · rintro k ⟨k0, w⟩ hk ⟨g1, g2, g3⟩
    dsimp only at g1 g2 g3
    subst g1
    dsimp only
    refine wpf (by simp (disch := first | omega | decide) only [↓neg1, nlit, rI, rL, rI2, rL1, nI_add, pk_mul, sbT, dvT, nmd, ixT, ↓ibT, ltT, ltF, leT, leF, eqT, eqF, nM_ltT, nM_ltF, nM_leT, nM_leF, nM_eqF, nM_eqF', nbT0, nbT1, oI_s, oI_n, natF, natT, nltT, nltF, nleT, nleF, ↓reduceIte, lgc, not_true_eq_false, not_false_eq_true, or_false, false_or, or_true, true_or, and_true, true_and, and_false, false_and, ne_eq, eq_self, or_self, and_self]) ?_
    refine wpc (K' := fun d : cS => (∀ a b, a < k + 1 → b < 12 → d.1 184 (ci o a b) = bI (decide (a = b))) ∧ sx (q184 o) u d) (whl_cnt (fun j (st : Int32 × cS) => st.1 = nI j ∧ (∀ a b, b < 12 → (a < k ∨ (a = k ∧ b < j)) → st.2.1 184 (ci o a b) = bI (decide (a = b))) ∧ sx (q184 o) u st.2) 12 ?_ ?_ (by omega) ⟨rfl, fun a b hb z => g2 a b (by omega) hb, g3⟩) (fun x hx => wpl ⟨nI_1 k, hx.1, hx.2⟩)
    · rintro j ⟨j0, v⟩ hj ⟨y1, y2, y3⟩
      dsimp only at y1 y2 y3
      subst y1
      dsimp only
      have hci := ci_lt (o := o) (show k < 12 by omega) (show j < 12 by omega)
      refine wpf (by simp (disch := first | omega | decide) only [↓neg1, nlit, rI, rL, rI2, rL1, nI_add, pk_mul, sbT, dvT, nmd, ixT, ↓ibT, ltT, ltF, leT, leF, eqT, eqF, nM_ltT, nM_ltF, nM_leT, nM_leF, nM_eqF, nM_eqF', nbT0, nbT1, oI_s, oI_n, natF, natT, nltT, nltF, nleT, nleF, ↓reduceIte, lgc, not_true_eq_false, not_false_eq_true, or_false, false_or, or_true, true_or, and_true, true_and, and_false, false_and, ne_eq, eq_self, or_self, and_self]) (wpe (show d_385 n (nI o) (nI k) (nI j) = some (nI (ci o k j)) from e385) (wpjQ (fun p : Int32 => p = bI (decide (k = j))) ?_ ?_))
      · rintro p rfl
        refine wpt (by simp (disch := first | omega | decide) only [↓neg1, nlit, rI, rL, rI2, rL1, nI_add, pk_mul, sbT, dvT, nmd, ixT, ↓ibT, ltT, ltF, leT, leF, eqT, eqF, nM_ltT, nM_ltF, nM_leT, nM_leF, nM_eqF, nM_eqF', nbT0, nbT1, oI_s, oI_n, natF, natT, nltT, nltF, nleT, nleF, ↓reduceIte, lgc, not_true_eq_false, not_false_eq_true, or_false, false_or, or_true, true_or, and_true, true_and, and_false, false_and, ne_eq, eq_self, or_self, and_self]) ?_
        rw [ix_n (by omega), nar_bI]
        refine wpl (wpl ⟨nI_1 j, fun a b hb z => ?_, sx_pI y3 (decide_eq_true (by omega))⟩)
        show (pI v 184 (ci o k j) _).1 184 (ci o a b) = _
        rw [rI]
        by_cases e : a = k ∧ b = j
        · rw [if_pos ⟨rfl, (ci_eq hb (by omega)).mpr e⟩, e.1, e.2]
        · rw [if_neg (fun z => e ((ci_eq hb (by omega)).mp z.2))]
          exact y2 a b hb (by omega)
      · intro Q' k' hk'
        by_cases e : k = j
        · exact wpt (by rw [e]) (hk' 1 (by rw [decide_eq_true e]; rfl))
        · exact wpf (fun z => e ((nI_eq (by omega) (by omega)).mp z)) (hk' 0 (by rw [decide_eq_false e]; rfl))
    · rintro ⟨j0, v⟩ ⟨y1, y2, y3⟩
      dsimp only at y1 y2 y3
      subst y1
      dsimp only
      exact wpt (by decide) ⟨fun a b ha hb => y2 a b hb (by omega), y3⟩
  · rintro ⟨k0, w⟩ ⟨g1, g2, g3⟩
    dsimp only at g1 g2 g3
    subst g1
    dsimp only
    exact wpt (by decide) ⟨fun a b ha hb => g2 a b ha hb, g3⟩
/-- ORDERS have NAMES of their own -/
def ONM (u : cS) (oc : Nat) : Prop := ∀ o, o < oc → fO u oc (u.2 181 o) = some o ∧ u.2 181 o ≠ 0
def qRO (A j : Nat) : Bool := decide ((A = 145 ∧ j = 7) ∨ (A = 7 ∧ j = 2) ∨ (18 ≤ A ∧ A ≤ 41))
def qRU (A j : Nat) : Bool := decide ((A = 174 ∧ (j = 67 ∨ j = 15)) ∨ (181 ≤ A ∧ A ≤ 188))
theorem qRO_c (h : sx qRO c d) : sx QRc c d := sx_wide h (fun A j z => by
  have := of_decide_eq_false z
  exact decide_eq_false (by omega))
theorem qRU_u (h : sx qRU u d) : sx QRu u d := sx_wide h (fun A j z => by
  have := of_decide_eq_false z
  exact decide_eq_false (by omega))
theorem qO1_RO (ho : o < 4) (h : sx (qO1 o) c d) : sx qRO c d := sx_wide h (fun A j z => by
  have := of_decide_eq_false z
  exact decide_eq_false (by unfold oA; omega))
theorem qOS_RO (ho : o < 4) (h : sx (qOS o) c d) : sx qRO c d := sx_wide h (fun A j z => by
  have := of_decide_eq_false z
  exact decide_eq_false (by unfold oA; omega))
theorem qO2_RU (h : sx (qO2 o) u d) : sx qRU u d := sx_wide h (fun A j z => by
  have := of_decide_eq_false z
  exact decide_eq_false (by omega))
theorem qOL_RU (h : sx (qOL o) u d) : sx qRU u d := sx_wide h (fun A j z => by
  have := of_decide_eq_false z
  exact decide_eq_false (by omega))
theorem q184_RU (h : sx (q184 o) u d) : sx qRU u d := sx_wide h (fun A j z => by
  have := of_decide_eq_false z
  exact decide_eq_false (by omega))
def finC (n o : Nat) (v3 : Int32) (x34 : cS) : Option (cS ⊕ cS) :=
      Option.bind (d_257 n 59 x34) (Sum.elim (fun r35 =>
      Option.bind (d_241 n o r35) (fun r37 =>
      jn (fun p38 : cS =>
        lt (pI p38 7 2 ((p38.1 7 2) + 1)) (fun c39 =>
        some (.inl c39)))
      (fun j158 =>
      if r37.1 = 0 then
        Option.bind (d_41 n 4 v3 r37.2) (Sum.elim (fun r41 =>
        j158 r41)
        (fun z42 => some (.inr z42)))
      else
        j158 r37.2)))
      (fun z36 => some (.inr z36)))
def finR (n : Nat) (v8 v2 : Int32) (nm : Int64) (x44 : cS) : Option cS :=
        if (x44.1 174 13) = 0 then
          Option.bind (d_101 n 59 x44) (fun v45 =>
          if v45 = 0 then
            Option.bind (d_103 n x44) (fun r57 =>
            some r57)
          else
            Option.bind (d_389 n v8 x44) (fun r46 =>
            jn (fun p47 : cS =>
              lt (pI p47 174 67 ((p47.1 174 67) + 1)) (fun c48 =>
              if ib v8 4 then
              lt (pL c48 181 (ix v8) nm) (fun c51 =>
              lt (pI c51 174 15 ((c51.1 174 15) + 1)) (fun c53 =>
              some c53))
              else none))
            (fun j218 =>
            if r46.1 = 0 then
              if ib v2 4001 then
              Option.bind (d_97 n 4 (r46.2.1 179 (ix v2)) r46.2) (fun r56 =>
              j218 r56)
              else none
            else
              j218 r46.2)))
        else
          some x44
def midC (n : Nat) (v3 : Int32) (r7 : Int64 × cS) : Option (cS ⊕ cS) :=
    if ib (r7.2.1 7 2) 4 then
    Option.bind (d_234 n (ix (r7.2.1 7 2)) r7.1 r7.2) (fun r12 =>
    Option.bind (d_257 n 58 r12) (Sum.elim (fun r13 =>
    Option.bind (whl (orC n (ix (r7.2.1 7 2))) n (1, 0, r13))
    (Sum.elim (finC n (ix (r7.2.1 7 2)) v3)
    (fun x43 : (cS) ⊕ cS =>
      some x43)))
    (fun z14 => some (.inr z14))))
    else none
theorem d262_s : d_262 n c = lt (pI c 145 7 ((c.1 145 7) + 1)) (fun c1 =>
  Option.bind (d_42 n c1) (fun v3 =>
  Option.bind (d_261 n c1) (fun v5 =>
  jn (fun p6 : Int32 =>
    Option.bind (d_260 n v5 p6 c1) (Sum.elim (midC n v3)
    (fun z8 => some (.inr z8))))
  (fun j36 =>
  if (c1.1 7 2) < 4 then
    j36 0
  else
    j36 1)))) := rfl
theorem d386_s : d_386 n c = lt ((c.1 174 67) : Int32) (fun v2 =>
  Option.bind (d_383 n (c.1 174 15) 4 c) (fun r4 =>
  Option.bind (d_380 n 58 r4.2) (fun r6 =>
  if (r6.1 174 13) = 0 then
    lt ((r6.1 174 15) : Int32) (fun v8 =>
    if ib v8 4 then
    lt (pI r6 182 (ix v8) 0) (fun c11 =>
    Option.bind (iniR n v8 c11)
    (fun x29 : cS =>
      Option.bind (whl (orR n v8) n (1, x29))
      (finR n v8 v2 r4.1)))
    else none)
  else
    some r6))) := rfl
def ORDP (K P : Nat → Nat) (V : Nat → Int64) (N : Nat) (c u : cS) (i oc kc mc cc : Nat) (r : cS ⊕ cS) (q : cS) : Prop := (∃ d i', r = .inl d ∧ i < i' ∧ PSI K P V N d q i' ∧ NMR d q (oc + 1) kc mc cc ∧ PO (oc + 1) d q ∧ ONM q (oc + 1) ∧ sx qRO c d ∧ sx qRU u q) ∨ (∃ z, r = .inr z ∧ FLR c u z q)
end RDP
