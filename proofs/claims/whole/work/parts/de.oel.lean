/-! READING: faults in both; ELEMENTS of an ORDER -/
section JWF
variable {S T A B : Type}
/-- two loops side by side; where the first leaves at once, the second may go once more round -/
theorem jw_whf {f : S → Option (S ⊕ A)} {g : T → Option (T ⊕ B)} {X : A → B → Prop} (I : Nat → S → T → Prop) (h : ∀ m s t, I m s t → jw (f s) (g t) (fun a b => (∃ s' t' m', a = .inl s' ∧ b = .inl t' ∧ m' < m ∧ I m' s' t') ∨ (∃ r q, a = .inr r ∧ b = .inr q ∧ X r q) ∨ (∃ r t' q, a = .inr r ∧ b = .inl t' ∧ g t' = some (.inr q) ∧ X r q))) : ∀ (n n' m : Nat) (s : S) (t : T), m < n → m + 1 < n' → I m s t → jw (whl f n s) (whl g n' t) X
  | 0, _, _, _, _, h1, _, _ => absurd h1 (Nat.not_lt_zero _)
  | _ + 1, 0, _, _, _, _, h2, _ => absurd h2 (Nat.not_lt_zero _)
  | n + 1, n' + 1, m, s, t, h1, h2, hi => by
    refine jwb (h m s t hi) (fun a b hab => ?_)
    rcases hab with ⟨s', t', m', rfl, rfl, hm, hi'⟩ | ⟨r, q, rfl, rfl, hX⟩ | ⟨r, t', q, rfl, rfl, hg, hX⟩
    · exact jw_whf I h n n' m' s' t' (by omega) (by omega) hi'
    · exact hX
    · show wp (some r) (fun r => wp (whl g n' t') (fun q => X r q))
      obtain ⟨k, rfl⟩ : ∃ k, n' = k + 1 := ⟨n' - 1, by omega⟩
      exact wp_of rfl (wp_of (whl_out hg) hX)
end JWF
section OEL
variable {n i N o E : Nat} {c d u w : cS} {K P : Nat → Nat} {V : Nat → Int64} {R : Nat → Nat → Bool}
/-- what reading may change -/
def QRc (A j : Nat) : Bool := decide (7 ≤ A ∧ A ≤ 145 ∧ ¬ (A = 7 ∧ j = 0))
def QRu (A j : Nat) : Bool := decide ((A = 174 ∧ ((11 ≤ j ∧ j ≤ 13) ∨ j = 15 ∨ j = 24 ∨ j = 34 ∨ j = 37 ∨ j = 67 ∨ j = 68)) ∨ (181 ≤ A ∧ A ≤ 231))
/-- a FAULT in both -/
def FLR (c u z q : cS) : Prop := z.1 145 4 = q.1 174 11 ∧ z.1 145 5 = q.1 174 12 ∧ q.1 174 13 = nI 1 ∧ sx QRc c z ∧ sx QRu u q
theorem FLR_of {k p : Int32} {z q : cS} (hz : sx QRc c z) (hq : sx QRu u q) : FLR c u (flC z k p) (flt q k p) := by
  obtain ⟨f1, f2, f3, -⟩ := flt_at (u := q) (a := k) (f := p)
  refine ⟨?_, ?_, f1, sx_pI (sx_pI hz (by decide)) (by decide), sx_trans hq (sx_pI (sx_pI (sx_pI sx_rfl (by decide)) (by decide)) (by decide))⟩
  · rw [f2]
    unfold flC
    rw [rI, if_neg (by omega), rI, if_pos ⟨rfl, rfl⟩]
  · rw [f3]
    unfold flC
    rw [rI, if_pos ⟨rfl, rfl⟩]
theorem FLR_sx {z q q' : cS} {r : Nat → Nat → Bool} (h : FLR c u z q) (hs : sx r q q') (h1 : ∀ A j, r A j = true → QRu A j = true) (h2 : ∀ j, 11 ≤ j → j ≤ 13 → r 174 j = false) : FLR c u z q' := by
  obtain ⟨a1, a2, a3, a4, a5⟩ := h
  refine ⟨a1.trans (hs.1 174 11 (h2 _ (by omega) (by omega))).symm, a2.trans (hs.1 174 12 (h2 _ (by omega) (by omega))).symm, (hs.1 174 13 (h2 _ (by omega) (by omega))).trans a3, a4, sx_trans a5 (sx_wide hs (fun A j z => by
    cases e : r A j with
    | false => rfl
    | true => rw [h1 A j e] at z; cases z))⟩
theorem FLR_tr {c1 u1 z q : cS} (h : FLR c1 u1 z q) (hc : sx QRc c c1) (hu : sx QRu u u1) : FLR c u z q := ⟨h.1, h.2.1, h.2.2.1, sx_trans hc h.2.2.2.1, sx_trans hu h.2.2.2.2⟩
theorem atC_sx : sx QRc c (atC c i) := sx_pI sx_rfl (by decide)
theorem atR_sx : sx QRu u (atR u i) := sx_pI sx_rfl (by decide)
/-- an ORDER while it is read -/
def ORS (K P : Nat → Nat) (V : Nat → Int64) (N : Nat) (c u : cS) (o E : Nat) (R : Nat → Nat → Bool) (i : Nat) : Prop := PSI K P V N c u i ∧ E ≤ 12 ∧ c.1 (oA o) 1 = nI E ∧ u.1 182 o = nI E ∧ (∀ e, e < E → c.2 (oA o + 1) e = u.2 183 (12 * o + e)) ∧ ROWb c (oA o + 2) E R ∧ (∀ a b, a < 12 → b < 12 → u.1 184 (ci o a b) = bI (R a b)) ∧ (∀ a b, (E ≤ a ∨ E ≤ b) → R a b = decide (a = b)) ∧ ∀ a, R a a = true
def eOp (u : cS) (o E : Nat) (v : Int64) : Option Nat := ff (fun e => decide (u.2 183 (12 * o + e) = v)) E
theorem e235p {v : Int64} (hn : 100 ≤ n) (hE : E ≤ 12) (h1 : c.1 (oA o) 1 = nI E) (h2 : ∀ e, e < E → c.2 (oA o + 1) e = u.2 183 (12 * o + e)) : d_235 n o v c = some (oI (eOp u o E v)) := by
  unfold d_235
  refine bwf (fun k => nI k) (Sum.inl ()) (fun k => Sum.inr (nI k)) (fun e => decide (u.2 183 (12 * o + e) = v)) (cnt := E) (by omega) rfl ?_ (fun j hj => ?_) ?_
  · simp (disch := first | omega | decide) only [↓neg1, nlit, rI, rL, rI2, rL1, nI_add, pk_mul, sbT, dvT, nmd, ixT, ↓ibT, ltT, ltF, leT, leF, eqT, eqF, nM_ltT, nM_ltF, nM_leT, nM_leF, nM_eqF, nM_eqF', nbT0, nbT1, oI_s, oI_n, natF, natT, nltT, nltF, nleT, nleF, ↓reduceIte, lgc, not_true_eq_false, not_false_eq_true, or_false, false_or, or_true, true_or, and_true, true_and, and_false, false_and, ne_eq, eq_self, or_self, and_self, obs, ↓jn, ↓lt, ↓reduceIte, decide_true, decide_false, Bool.false_eq_true, Bool.and_true, Bool.and_false, Bool.true_and, Bool.false_and, Bool.or_false, Bool.false_or, Bool.or_true, Bool.true_or, h1]
  · have h3 := h2 j hj
    by_cases hv : u.2 183 (12 * o + j) = v
    · simp (disch := first | omega | decide) only [↓neg1, nlit, rI, rL, rI2, rL1, nI_add, pk_mul, sbT, dvT, nmd, ixT, ↓ibT, ltT, ltF, leT, leF, eqT, eqF, nM_ltT, nM_ltF, nM_leT, nM_leF, nM_eqF, nM_eqF', nbT0, nbT1, oI_s, oI_n, natF, natT, nltT, nltF, nleT, nleF, ↓reduceIte, lgc, not_true_eq_false, not_false_eq_true, or_false, false_or, or_true, true_or, and_true, true_and, and_false, false_and, ne_eq, eq_self, or_self, and_self, obs, ↓jn, ↓lt, ↓reduceIte, decide_true, decide_false, Bool.false_eq_true, Bool.and_true, Bool.and_false, Bool.true_and, Bool.false_and, Bool.or_false, Bool.false_or, Bool.or_true, Bool.true_or, h1, h3, hv]
    · simp (disch := first | omega | decide) only [↓neg1, nlit, rI, rL, rI2, rL1, nI_add, pk_mul, sbT, dvT, nmd, ixT, ↓ibT, ltT, ltF, leT, leF, eqT, eqF, nM_ltT, nM_ltF, nM_leT, nM_leF, nM_eqF, nM_eqF', nbT0, nbT1, oI_s, oI_n, natF, natT, nltT, nltF, nleT, nleF, ↓reduceIte, lgc, not_true_eq_false, not_false_eq_true, or_false, false_or, or_true, true_or, and_true, true_and, and_false, false_and, ne_eq, eq_self, or_self, and_self, obs, ↓jn, ↓lt, ↓reduceIte, decide_true, decide_false, Bool.false_eq_true, Bool.and_true, Bool.and_false, Bool.true_and, Bool.false_and, Bool.or_false, Bool.false_or, Bool.or_true, Bool.true_or, h1, h3, hv]
  · unfold eOp
    cases ff _ _ <;> rfl
theorem e377p {v : Int64} (hn : 100 ≤ n) (ho : o < 4) (hE : E ≤ 12) (h1 : u.1 182 o = nI E) : d_377 n (nI o) v u = some (oI (eOp u o E v)) := by
  unfold d_377
  refine bwf (fun k => nI k) (Sum.inl ()) (fun k => Sum.inr (nI k)) (fun e => decide (u.2 183 (12 * o + e) = v)) (cnt := E) (by omega) rfl ?_ (fun j hj => ?_) ?_
  · simp (disch := first | omega | decide) only [↓neg1, nlit, rI, rL, rI2, rL1, nI_add, pk_mul, sbT, dvT, nmd, ixT, ↓ibT, ltT, ltF, leT, leF, eqT, eqF, nM_ltT, nM_ltF, nM_leT, nM_leF, nM_eqF, nM_eqF', nbT0, nbT1, oI_s, oI_n, natF, natT, nltT, nltF, nleT, nleF, ↓reduceIte, lgc, not_true_eq_false, not_false_eq_true, or_false, false_or, or_true, true_or, and_true, true_and, and_false, false_and, ne_eq, eq_self, or_self, and_self, obs, ↓jn, ↓lt, ↓reduceIte, decide_true, decide_false, Bool.false_eq_true, Bool.and_true, Bool.and_false, Bool.true_and, Bool.false_and, Bool.or_false, Bool.false_or, Bool.or_true, Bool.true_or, h1]
  · by_cases hv : u.2 183 (12 * o + j) = v
    · simp (disch := first | omega | decide) only [↓neg1, nlit, rI, rL, rI2, rL1, nI_add, pk_mul, sbT, dvT, nmd, ixT, ↓ibT, ltT, ltF, leT, leF, eqT, eqF, nM_ltT, nM_ltF, nM_leT, nM_leF, nM_eqF, nM_eqF', nbT0, nbT1, oI_s, oI_n, natF, natT, nltT, nltF, nleT, nleF, ↓reduceIte, lgc, not_true_eq_false, not_false_eq_true, or_false, false_or, or_true, true_or, and_true, true_and, and_false, false_and, ne_eq, eq_self, or_self, and_self, obs, ↓jn, ↓lt, ↓reduceIte, decide_true, decide_false, Bool.false_eq_true, Bool.and_true, Bool.and_false, Bool.true_and, Bool.false_and, Bool.or_false, Bool.false_or, Bool.or_true, Bool.true_or, h1, hv]
    · simp (disch := first | omega | decide) only [↓neg1, nlit, rI, rL, rI2, rL1, nI_add, pk_mul, sbT, dvT, nmd, ixT, ↓ibT, ltT, ltF, leT, leF, eqT, eqF, nM_ltT, nM_ltF, nM_leT, nM_leF, nM_eqF, nM_eqF', nbT0, nbT1, oI_s, oI_n, natF, natT, nltT, nltF, nleT, nleF, ↓reduceIte, lgc, not_true_eq_false, not_false_eq_true, or_false, false_or, or_true, true_or, and_true, true_and, and_false, false_and, ne_eq, eq_self, or_self, and_self, obs, ↓jn, ↓lt, ↓reduceIte, decide_true, decide_false, Bool.false_eq_true, Bool.and_true, Bool.and_false, Bool.true_and, Bool.false_and, Bool.or_false, Bool.false_or, Bool.or_true, Bool.true_or, h1, hv]
  · unfold eOp
    cases ff _ _ <;> rfl
def qO1 (o A j : Nat) : Bool := decide ((A = 145 ∧ j = 7) ∨ (A = oA o ∧ j = 1) ∨ A = oA o + 1 ∨ A = oA o + 2)
def qO2 (o A j : Nat) : Bool := decide ((A = 174 ∧ j = 67) ∨ (A = 182 ∧ j = o) ∨ (A = 183 ∧ 12 * o ≤ j ∧ j < 12 * o + 12) ∨ (A = 184 ∧ 144 * o ≤ j ∧ j < 144 * o + 144))
theorem qO1_QRc (ho : o < 4) {z : cS} (h : sx (qO1 o) c z) : sx QRc c z := sx_wide h (fun A j z => by
  have := of_decide_eq_false z
  unfold oA at *
  exact decide_eq_false (by unfold oA; omega))
theorem qO2_QRu {z : cS} (h : sx (qO2 o) u z) : sx QRu u z := sx_wide h (fun A j z => by
  have := of_decide_eq_false z
  exact decide_eq_false (by omega))
/-- an ELEMENT -/
def ELM (K P : Nat → Nat) (V : Nat → Int64) (N : Nat) (c u : cS) (o E : Nat) (R : Nat → Nat → Bool) (i : Nat) (r : (Int32 × cS) ⊕ cS) (q : Int32 × cS) : Prop := (∃ e E' d, r = .inl (nI e, d) ∧ q.1 = nI e ∧ e < E' ∧ E ≤ E' ∧ ORS K P V N d q.2 o E' R (i + 1) ∧ i < N ∧ sx (qO1 o) c d ∧ sx (qO2 o) u q.2 ∧ (∀ a, a < E → d.1 (oA o + 2) a = c.1 (oA o + 2) a)) ∨ (∃ z, r = .inr z ∧ FLR c u z q.2)
def nwC (c : cS) (o E i : Nat) (v : Int64) : cS := pI (pI (pL (atC c (i + 1)) (oA o + 1) E v) (oA o + 2) E (1 <<< (nI E &&& 31))) (oA o) 1 (nI (E + 1))
def nwR (u : cS) (o E i : Nat) (v : Int64) : cS := pI (pL (atR u (i + 1)) 183 (12 * o + E) v) 182 o (nI (E + 1))
theorem e263 (hn : 1000 ≤ n) (ho : o < 4) (h : ORS K P V N c u o E R i) : d_263 n o c = some (if K i = 1 then (match eOp u o E (V i) with | some e => .inl (nI e, atC c (i + 1)) | none => if E = 12 then .inr (flC c 6 (nI (P i))) else .inl (nI E, nwC c o E i (V i))) else .inr (flC c 2 (nI (P i)))) := by
  obtain ⟨h1, h2, h3, h4, h5, h6, h7, h8, h9⟩ := h
  have hk := PSI_K h1
  unfold d_263
  refine eq_wp (wpe (e259 h1) ?_)
  by_cases e1 : K i = 1
  · rw [if_pos e1, if_pos e1]
    have hi := PSI_lt h1 (by omega)
    have hv : c.2 5 i = V i := by
      have ht := (h1.1.2.2.1 i h1.2.1).2.2.2.2
      unfold TKO at ht
      rcases ht with b | b | b | b | b | b
      · omega
      · exact b.2.2.1
      · omega
      · omega
      · omega
      · omega
    refine wpSl (wpe (e235p (by omega) h2 h3 h5) (wpj ?_))
    dsimp only
    have h7' : (pI c 145 7 (nI (i + 1))).1 145 7 = nI (i + 1) := by rw [rI, if_pos ⟨rfl, rfl⟩]
    cases he : eOp u o E (V i) with
    | some e =>
      have hel := (ff_some he).1
      rw [oI_s, h1.2.2.1, nI_1]
      exact wpt (nI_pos' (by omega)) (wpl (wpj (wpf (nI_pos (by omega)) rfl)))
    | none =>
      rw [h3]
      by_cases e12 : E = 12
      · rw [if_pos e12]
        exact wpf (by decide) (wpf (by rw [e12]; decide) (wpe (e42 h1) (wpe e41 rfl)))
      · rw [if_neg e12, h1.2.2.1, nI_1]
        refine wpf (by decide) (wpt (by simp (disch := first | omega | decide) only [↓neg1, nlit, rI, rL, rI2, rL1, nI_add, pk_mul, sbT, dvT, nmd, ixT, ↓ibT, ltT, ltF, leT, leF, eqT, eqF, nM_ltT, nM_ltF, nM_leT, nM_leF, nM_eqF, nM_eqF', nbT0, nbT1, oI_s, oI_n, natF, natT, nltT, nltF, nleT, nleF, ↓reduceIte, lgc, not_true_eq_false, not_false_eq_true, or_false, false_or, or_true, true_or, and_true, true_and, and_false, false_and, ne_eq, eq_self, or_self, and_self]) (wpl (wpj (wpt (by decide) ?_))))
        rw [h7', show nI (i + 1) - 1 = nI i by rw [← nI_1]; simp]
        refine wpt (by simp (disch := first | omega | decide) only [↓neg1, nlit, rI, rL, rI2, rL1, nI_add, pk_mul, sbT, dvT, nmd, ixT, ↓ibT, ltT, ltF, leT, leF, eqT, eqF, nM_ltT, nM_ltF, nM_leT, nM_leF, nM_eqF, nM_eqF', nbT0, nbT1, oI_s, oI_n, natF, natT, nltT, nltF, nleT, nleF, ↓reduceIte, lgc, not_true_eq_false, not_false_eq_true, or_false, false_or, or_true, true_or, and_true, true_and, and_false, false_and, ne_eq, eq_self, or_self, and_self]) ?_
        rw [ix_n (by omega), show (pI c 145 7 (nI (i + 1))).2 5 i = V i from hv]
        have z1 : (pI c 145 7 (nI (i + 1))).1 (oA o) 1 = nI E := by
          rw [rI, if_neg (by unfold oA; omega)]
          exact h3
        have z2 : (pL (pI c 145 7 (nI (i + 1))) (oA o + 1) E (V i)).1 (oA o) 1 = nI E := z1
        have z3 : (pI (pL (pI c 145 7 (nI (i + 1))) (oA o + 1) E (V i)) (oA o + 2) E (1 <<< (nI E &&& 31))).1 (oA o) 1 = nI E := by
          rw [rI, if_neg (by omega)]
          exact z2
        have e236 : d_236 n o (V i) (pI c 145 7 (nI (i + 1))) = some (nI E, nwC c o E i (V i)) := by
          unfold d_236
          refine eq_wp ?_
          rw [z1]
          refine wpt (by simp (disch := first | omega | decide) only [↓neg1, nlit, rI, rL, rI2, rL1, nI_add, pk_mul, sbT, dvT, nmd, ixT, ↓ibT, ltT, ltF, leT, leF, eqT, eqF, nM_ltT, nM_ltF, nM_leT, nM_leF, nM_eqF, nM_eqF', nbT0, nbT1, oI_s, oI_n, natF, natT, nltT, nltF, nleT, nleF, ↓reduceIte, lgc, not_true_eq_false, not_false_eq_true, or_false, false_or, or_true, true_or, and_true, true_and, and_false, false_and, ne_eq, eq_self, or_self, and_self]) ?_
          rw [ix_n (by omega)]
          refine wpl ?_
          rw [z2]
          refine wpt (by simp (disch := first | omega | decide) only [↓neg1, nlit, rI, rL, rI2, rL1, nI_add, pk_mul, sbT, dvT, nmd, ixT, ↓ibT, ltT, ltF, leT, leF, eqT, eqF, nM_ltT, nM_ltF, nM_leT, nM_leF, nM_eqF, nM_eqF', nbT0, nbT1, oI_s, oI_n, natF, natT, nltT, nltF, nleT, nleF, ↓reduceIte, lgc, not_true_eq_false, not_false_eq_true, or_false, false_or, or_true, true_or, and_true, true_and, and_false, false_and, ne_eq, eq_self, or_self, and_self]) ?_
          rw [ix_n (by omega)]
          refine wpl ?_
          rw [z3, nI_1]
          exact wpl rfl
        exact wpe e236 rfl
  · rw [if_neg e1, if_neg e1]
    exact wpSr rfl
theorem e384 (hn : 1000 ≤ n) (ho : o < 4) (h : ORS K P V N c u o E R i) : d_384 n (nI o) u = some (if K i = 1 then (match eOp u o E (V i) with | some e => (nI e, atR u (i + 1)) | none => if E = 12 then (0, flt (atR u (i + 1)) 6 (nI (P i))) else (nI E, nwR u o E i (V i))) else (0, flt u 2 (nI (P i)))) := by
  obtain ⟨h1, h2, h3, h4, h5, h6, h7, h8, h9⟩ := h
  have hk := PSI_K h1
  unfold d_384
  rw [h1.2.2.2.1]
  refine eq_wp (wpl (wpe (e381 h1) ?_))
  by_cases e1 : K i = 1
  · rw [if_pos e1, if_pos e1]
    have hi := PSI_lt h1 (by omega)
    have hp := PSI_s h1 (by omega)
    have r2 : (atR u (i + 1)).1 182 o = nI E := by
      unfold atR
      rw [rI, if_neg (by omega)]
      exact h4
    have r9 : (atR u (i + 1)).1 179 i = nI (P i) := by
      unfold atR
      rw [rI, if_neg (by omega)]
      exact (h1.1.2.2.1 i h1.2.1).2.2.1
    have hee : eOp (atR u (i + 1)) o E (V i) = eOp u o E (V i) := rfl
    refine wpt hp.2.2.2.2 (wpe (e377p (by omega) ho h2 r2) ?_)
    rw [hee]
    cases he : eOp u o E (V i) with
    | some e =>
      have hel := (ff_some he).1
      exact wpf (nI_pos (by omega)) rfl
    | none =>
      refine wpt (by decide) (wpt (by simp (disch := first | omega | decide) only [↓neg1, nlit, rI, rL, rI2, rL1, nI_add, pk_mul, sbT, dvT, nmd, ixT, ↓ibT, ltT, ltF, leT, leF, eqT, eqF, nM_ltT, nM_ltF, nM_leT, nM_leF, nM_eqF, nM_eqF', nbT0, nbT1, oI_s, oI_n, natF, natT, nltT, nltF, nleT, nleF, ↓reduceIte, lgc, not_true_eq_false, not_false_eq_true, or_false, false_or, or_true, true_or, and_true, true_and, and_false, false_and, ne_eq, eq_self, or_self, and_self]) ?_)
      dsimp only
      rw [ix_n (show o < 2147483648 by omega), r2]
      by_cases e12 : E = 12
      · rw [if_pos e12]
        refine wpt (by rw [e12]; rfl) (wpt (by simp (disch := first | omega | decide) only [↓neg1, nlit, rI, rL, rI2, rL1, nI_add, pk_mul, sbT, dvT, nmd, ixT, ↓ibT, ltT, ltF, leT, leF, eqT, eqF, nM_ltT, nM_ltF, nM_leT, nM_leF, nM_eqF, nM_eqF', nbT0, nbT1, oI_s, oI_n, natF, natT, nltT, nltF, nleT, nleF, ↓reduceIte, lgc, not_true_eq_false, not_false_eq_true, or_false, false_or, or_true, true_or, and_true, true_and, and_false, false_and, ne_eq, eq_self, or_self, and_self]) ?_)
        rw [ix_n (by omega), r9]
        exact wpe (e97 hp.2.2.2.2) rfl
      · rw [if_neg e12]
        refine wpf (fun z => e12 ((nI_eq (by omega) (by decide)).mp (show _ = nI 12 from z))) (wpt (by simp (disch := first | omega | decide) only [↓neg1, nlit, rI, rL, rI2, rL1, nI_add, pk_mul, sbT, dvT, nmd, ixT, ↓ibT, ltT, ltF, leT, leF, eqT, eqF, nM_ltT, nM_ltF, nM_leT, nM_leF, nM_eqF, nM_eqF', nbT0, nbT1, oI_s, oI_n, natF, natT, nltT, nltF, nleT, nleF, ↓reduceIte, lgc, not_true_eq_false, not_false_eq_true, or_false, false_or, or_true, true_or, and_true, true_and, and_false, false_and, ne_eq, eq_self, or_self, and_self]) ?_)
        rw [show (12 : Int32) * nI o + nI E = nI (12 * o + E) by rw [show (12 : Int32) = nI 12 from rfl, pk_mul, nI_add]]
        refine wpt (by simp (disch := first | omega | decide) only [↓neg1, nlit, rI, rL, rI2, rL1, nI_add, pk_mul, sbT, dvT, nmd, ixT, ↓ibT, ltT, ltF, leT, leF, eqT, eqF, nM_ltT, nM_ltF, nM_leT, nM_leF, nM_eqF, nM_eqF', nbT0, nbT1, oI_s, oI_n, natF, natT, nltT, nltF, nleT, nleF, ↓reduceIte, lgc, not_true_eq_false, not_false_eq_true, or_false, false_or, or_true, true_or, and_true, true_and, and_false, false_and, ne_eq, eq_self, or_self, and_self]) ?_
        rw [ix_n (by omega)]
        have z1 : (pL (atR u (i + 1)) 183 (12 * o + E) (V i)).1 182 o = nI E := r2
        refine wpl (wpt (by simp (disch := first | omega | decide) only [↓neg1, nlit, rI, rL, rI2, rL1, nI_add, pk_mul, sbT, dvT, nmd, ixT, ↓ibT, ltT, ltF, leT, leF, eqT, eqF, nM_ltT, nM_ltF, nM_leT, nM_leF, nM_eqF, nM_eqF', nbT0, nbT1, oI_s, oI_n, natF, natT, nltT, nltF, nleT, nleF, ↓reduceIte, lgc, not_true_eq_false, not_false_eq_true, or_false, false_or, or_true, true_or, and_true, true_and, and_false, false_and, ne_eq, eq_self, or_self, and_self]) (wpt (by simp (disch := first | omega | decide) only [↓neg1, nlit, rI, rL, rI2, rL1, nI_add, pk_mul, sbT, dvT, nmd, ixT, ↓ibT, ltT, ltF, leT, leF, eqT, eqF, nM_ltT, nM_ltF, nM_leT, nM_leF, nM_eqF, nM_eqF', nbT0, nbT1, oI_s, oI_n, natF, natT, nltT, nltF, nleT, nleF, ↓reduceIte, lgc, not_true_eq_false, not_false_eq_true, or_false, false_or, or_true, true_or, and_true, true_and, and_false, false_and, ne_eq, eq_self, or_self, and_self]) ?_))
        rw [z1, nI_1]
        refine wpl (wpt (by simp (disch := first | omega | decide) only [↓neg1, nlit, rI, rL, rI2, rL1, nI_add, pk_mul, sbT, dvT, nmd, ixT, ↓ibT, ltT, ltF, leT, leF, eqT, eqF, nM_ltT, nM_ltF, nM_leT, nM_leF, nM_eqF, nM_eqF', nbT0, nbT1, oI_s, oI_n, natF, natT, nltT, nltF, nleT, nleF, ↓reduceIte, lgc, not_true_eq_false, not_false_eq_true, or_false, false_or, or_true, true_or, and_true, true_and, and_false, false_and, ne_eq, eq_self, or_self, and_self]) ?_)
        rw [rI, if_pos ⟨rfl, rfl⟩, show nI (E + 1) - 1 = nI E by rw [← nI_1]; simp]
        exact rfl
  · rw [if_neg e1, if_neg e1]
    exact wpf (by rw [(flt_at (u := u)).1]; decide) rfl
theorem elm (hn : 1000 ≤ n) (ho : o < 4) (h : ORS K P V N c u o E R i) : jw (d_263 n o c) (d_384 n (nI o) u) (ELM K P V N c u o E R i) := by
  refine jw_of (e263 hn ho h) (e384 hn ho h) ?_
  obtain ⟨h1, h2, h3, h4, h5, h6, h7, h8, h9⟩ := h
  by_cases e1 : K i = 1
  · rw [if_pos e1, if_pos e1]
    have hi := PSI_lt h1 (by omega)
    have hp := PSI_s h1 (by omega)
    have sc : ∀ A j, A ≠ 145 → (atC c (i + 1)).1 A j = c.1 A j := fun A j z => by
      unfold atC
      rw [rI, if_neg (by omega)]
    have su : ∀ A j, A ≠ 174 → (atR u (i + 1)).1 A j = u.1 A j := fun A j z => by
      unfold atR
      rw [rI, if_neg (by omega)]
    have hoA : oA o < 42 := by unfold oA; omega
    have s1 : sx (qO1 o) c (atC c (i + 1)) := sx_pI sx_rfl (decide_eq_true (by omega))
    have s2 : sx (qO2 o) u (atR u (i + 1)) := sx_pI sx_rfl (decide_eq_true (by omega))
    cases he : eOp u o E (V i) with
    | some e =>
      have hel := (ff_some he).1
      refine Or.inl ⟨e, E, atC c (i + 1), rfl, rfl, hel, Nat.le_refl _, ⟨hp, h2, ?_, ?_, h5, fun a ha => ?_, fun a b ha hb => ?_, h8, h9⟩, hi, s1, s2, fun a ha => sc _ _ (by omega)⟩
      · rw [sc _ _ (by omega)]
        exact h3
      · rw [su _ _ (by omega)]
        exact h4
      · rw [sc _ _ (by omega)]
        exact h6 a ha
      · rw [su _ _ (by omega)]
        exact h7 a b ha hb
    | none =>
      dsimp only
      by_cases e12 : E = 12
      · rw [if_pos e12, if_pos e12]
        exact Or.inr ⟨_, rfl, FLR_of sx_rfl atR_sx⟩
      · rw [if_neg e12, if_neg e12]
        have t1 : sx (qO1 o) c (nwC c o E i (V i)) := sx_pI (sx_pI (sx_pL s1 (decide_eq_true (by omega))) (decide_eq_true (by omega))) (decide_eq_true (by omega))
        have t2 : sx (qO2 o) u (nwR u o E i (V i)) := sx_pI (sx_pL s2 (decide_eq_true (by omega))) (decide_eq_true (by omega))
        have C : ∀ A j, A ≠ 145 → ¬ (A = oA o + 2 ∧ j = E) → ¬ (A = oA o ∧ j = 1) → (nwC c o E i (V i)).1 A j = c.1 A j := fun A j z1 z2 z3 => by
          unfold nwC
          rw [rI, if_neg z3, rI, if_neg z2]
          exact sc A j z1
        have U : ∀ A j, A ≠ 174 → ¬ (A = 182 ∧ j = o) → (nwR u o E i (V i)).1 A j = u.1 A j := fun A j z1 z2 => by
          unfold nwR
          rw [rI, if_neg z2]
          exact su A j z1
        refine Or.inl ⟨E, E + 1, nwC c o E i (V i), rfl, rfl, by omega, by omega, ⟨?_, by omega, ?_, ?_, fun e hel => ?_, fun a ha => ?_, fun a b ha hb => ?_, fun a b z => h8 a b (by omega), h9⟩, hi, t1, t2, fun a ha => C _ _ (by omega) (by omega) (by omega)⟩
        · refine ⟨TKR_sx h1.1 t1 t2 (fun A j z1 z2 => decide_eq_false (by unfold oA; omega)) (fun A j z1 z2 => decide_eq_false (by omega)), hi, ?_, ?_, ?_⟩
          · unfold nwC
            rw [rI, if_neg (by omega), rI, if_neg (by omega)]
            exact hp.2.2.1
          · unfold nwR
            rw [rI, if_neg (by omega)]
            exact hp.2.2.2.1
          · unfold nwR
            rw [rI, if_neg (by omega)]
            exact hp.2.2.2.2
        · unfold nwC
          rw [rI, if_pos ⟨rfl, rfl⟩]
        · show (nwR u o E i (V i)).1 182 o = _
          unfold nwR
          rw [rI, if_pos ⟨rfl, rfl⟩]
        · show (pL (atC c (i + 1)) (oA o + 1) E (V i)).2 (oA o + 1) e = (pL (atR u (i + 1)) 183 (12 * o + E) (V i)).2 183 (12 * o + e)
          rw [rL, rL]
          by_cases e2 : e = E
          · rw [if_pos ⟨rfl, e2⟩, if_pos ⟨rfl, by omega⟩]
          · rw [if_neg (fun z => e2 z.2), if_neg (fun z => e2 (by omega))]
            exact h5 e (by omega)
        · by_cases e2 : a = E
          · subst e2
            have hrow : (nwC c o a i (V i)).1 (oA o + 2) a = 1 <<< (nI a &&& 31) := by
              unfold nwC
              rw [rI, if_neg (by omega), rI, if_pos ⟨rfl, rfl⟩]
            rw [hrow]
            refine BRb_cg (BRb_1 (by omega) (by omega)) (fun b hb => ?_)
            rw [h8 a b (by omega)]
            by_cases e3 : b = a
            · rw [decide_eq_true e3, decide_eq_true e3.symm]
            · rw [decide_eq_false e3, decide_eq_false (fun z => e3 z.symm)]
          · rw [C _ _ (by omega) (by omega) (by omega)]
            refine BRb_up (h6 a (by omega)) ?_
            rw [h8 a E (by omega)]
            exact decide_eq_false (by omega)
        · rw [U _ _ (by omega) (by omega)]
          exact h7 a b ha hb
  · rw [if_neg e1, if_neg e1]
    exact Or.inr ⟨_, rfl, FLR_of sx_rfl sx_rfl⟩
end OEL
