/-! FLOW: the least solution -/
def Jo (m : cS) (o a b : Nat) : Nat := ix (mJ m o a b)
def Mo (m : cS) (o a b : Nat) : Nat := ix (mM m o a b)
section LAT
variable {m : cS} {o N a b d : Nat} (h : LA o N m)
theorem LA_n (h : LA o N m) : 1 ≤ N ∧ N ≤ 12 := h.1
theorem LA_refl (h : LA o N m) (ha : a < N) : mB m o a a := h.2.2.2.1 a ha
theorem LA_anti (h : LA o N m) (ha : a < N) (hb : b < N) (h1 : mB m o a b) (h2 : mB m o b a) : a = b := h.2.2.2.2.1 a b ha hb h1 h2
theorem LA_tr (h : LA o N m) (ha : a < N) (hb : b < N) (hd : d < N) (h1 : mB m o a b) (h2 : mB m o b d) : mB m o a d := h.2.2.2.2.2.1 a b d ha hb hd h1 h2
theorem LA_J (h : LA o N m) (ha : a < N) (hb : b < N) : Jo m o a b < N ∧ mJ m o a b = nI (Jo m o a b) ∧ mB m o a (Jo m o a b) ∧ mB m o b (Jo m o a b) ∧ ∀ d, d < N → mB m o a d → mB m o b d → mB m o (Jo m o a b) d := by
  obtain ⟨j, j1, j2, j3, j4, j5⟩ := h.2.2.2.2.2.2.1 a b ha hb
  have hN := h.1.2
  have e : Jo m o a b = j := by unfold Jo; rw [j2, ix_n (by omega)]
  rw [e]
  exact ⟨j1, j2, j3, j4, j5⟩
theorem LA_M (h : LA o N m) (ha : a < N) (hb : b < N) : Mo m o a b < N ∧ mM m o a b = nI (Mo m o a b) ∧ mB m o (Mo m o a b) a ∧ mB m o (Mo m o a b) b ∧ ∀ d, d < N → mB m o d a → mB m o d b → mB m o d (Mo m o a b) := by
  obtain ⟨j, j1, j2, j3, j4, j5⟩ := h.2.2.2.2.2.2.2.1 a b ha hb
  have hN := h.1.2
  have e : Mo m o a b = j := by unfold Mo; rw [j2, ix_n (by omega)]
  rw [e]
  exact ⟨j1, j2, j3, j4, j5⟩
theorem LA_bot (h : LA o N m) : ix (m.1 188 o) < N ∧ m.1 188 o = nI (ix (m.1 188 o)) ∧ ∀ d, d < N → mB m o (ix (m.1 188 o)) d := by
  obtain ⟨t, t1, t2, t3⟩ := h.2.2.2.2.2.2.2.2.2
  have hN := h.1.2
  have e : ix (m.1 188 o) = t := by rw [t2, ix_n (by omega)]
  rw [e]
  exact ⟨t1, t2, t3⟩
theorem LA_Jmono {a' b' : Nat} (h : LA o N m) (ha : a < N) (hb : b < N) (ha' : a' < N) (hb' : b' < N) (h1 : mB m o a a') (h2 : mB m o b b') : mB m o (Jo m o a b) (Jo m o a' b') := by
  obtain ⟨q1, -, -, -, q5⟩ := LA_J h ha hb
  obtain ⟨r1, -, r3, r4, -⟩ := LA_J h ha' hb'
  exact q5 _ r1 (LA_tr h ha ha' r1 h1 r3) (LA_tr h hb hb' r1 h2 r4)
theorem LA_Mmono {a' : Nat} (h : LA o N m) (ha : a < N) (hb : b < N) (ha' : a' < N) (h1 : mB m o a a') : mB m o (Mo m o a b) (Mo m o a' b) := by
  obtain ⟨q1, -, q3, q4, -⟩ := LA_M h ha hb
  obtain ⟨r1, -, -, -, r5⟩ := LA_M h ha' hb
  exact r5 _ q1 (LA_tr h q1 ha ha' q3 h1) q4
/-- joined with one that is below: the same -/
theorem LA_Jid (h : LA o N m) (ha : a < N) (hb : b < N) : Jo m o a b = a ↔ mB m o b a := by
  obtain ⟨q1, -, q3, q4, q5⟩ := LA_J h ha hb
  constructor
  · intro e
    rw [e] at q4
    exact q4
  · intro hba
    exact LA_anti h q1 ha (q5 a ha (LA_refl h ha) hba) q3
/-- how high an ELEMENT stands -/
def bB (m : cS) (o a b : Nat) : Bool := decide (m.1 184 ((12 * o + a) * 12 + b) = 1)
theorem bB_t (h1 : mB m o a b) : bB m o a b = true := decide_eq_true h1
theorem bB_f (h1 : ¬ mB m o a b) : bB m o a b = false := decide_eq_false h1
theorem of_bB (h1 : bB m o a b = true) : mB m o a b := by
  show m.1 184 ((12 * o + a) * 12 + b) = 1
  exact of_decide_eq_true h1
def hgt (m : cS) (o N a : Nat) : Nat := cntN (fun d => bB m o d a) N
theorem cntN_sub {p q : Nat → Bool} : ∀ t, (∀ i, i < t → p i = true → q i = true) → cntN p t ≤ cntN q t
  | 0, _ => Nat.le_refl _
  | t + 1, h => by
    have := cntN_sub (p := p) (q := q) t (fun i hi => h i (by omega))
    rw [cntN_s, cntN_s]
    by_cases hp : p t = true
    · rw [if_pos hp, if_pos (h t (by omega) hp)]
      omega
    · rw [if_neg hp]
      omega
theorem cntN_slt {p q : Nat → Bool} {j : Nat} : ∀ t, j < t → (∀ i, i < t → p i = true → q i = true) → p j = false → q j = true → cntN p t < cntN q t
  | 0, hj, _, _, _ => by omega
  | t + 1, hj, h, h1, h2 => by
    rw [cntN_s, cntN_s]
    by_cases e : j = t
    · subst e
      have := cntN_sub (p := p) (q := q) j (fun i hi => h i (by omega))
      rw [if_neg (by rw [h1]; decide), if_pos h2]
      omega
    · have := cntN_slt (p := p) (q := q) (j := j) t (by omega) (fun i hi => h i (by omega)) h1 h2
      by_cases hp : p t = true
      · rw [if_pos hp, if_pos (h t (by omega) hp)]
        omega
      · rw [if_neg hp]
        omega
theorem hgt_lt (h : LA o N m) (ha : a < N) (hb : b < N) (h1 : mB m o a b) (hne : a ≠ b) : hgt m o N a < hgt m o N b := by
  exact cntN_slt N hb (fun i hi hp => bB_t (LA_tr h hi ha hb (of_bB hp) h1)) (bB_f (fun z => hne (LA_anti h ha hb h1 z))) (bB_t (LA_refl h hb))
theorem hgt_le (h : LA o N m) (ha : a < N) (hb : b < N) (h1 : mB m o a b) : hgt m o N a ≤ hgt m o N b := by
  by_cases e : a = b
  · rw [e]
    exact Nat.le_refl _
  · exact Nat.le_of_lt (hgt_lt h ha hb h1 e)
end LAT
/-- what an ACT does with a STATE; on the way to its LABEL -/
def trN (m : cS) (o : Nat) (K : Nat → Nat) (b : Nat) (f : Nat → Nat) (s : Nat) : Nat :=
  if opn m b = 14 ∨ opn m b = 15 then (if s = 8 + dpn m b then tlo m b o (tdn m b) else f s)
  else if opn m b = 16 then (if s = 8 + dpn m b then f (xN m b) else f s)
  else if opn m b = 17 then (if s = xN m b then f (8 + dpn m b - 1) else f s)
  else if opn m b = 18 then (if s = 8 + dpn m b then K (100 * xN m b + 1 + yN m b) else f s)
  else if opn m b = 20 then (if s = 8 + dpn m b - pM m (8 * xN m b + yN m b) then K (100 * xN m b + 20 + 10 * yN m b) else f s)
  else if 22 ≤ opn m b ∧ opn m b ≤ 24 then (if s = 8 + dpn m b - 2 then Jo m o (f (8 + dpn m b - 2)) (f (8 + dpn m b - 1)) else f s)
  else if opn m b = 25 then (if s = 8 + dpn m b then f (8 + dpn m b - 1) else f s)
  else if opn m b = 30 ∧ xN m b = o then (if s = 8 + dpn m b - 1 then yN m b else f s)
  else f s
def trL (m : cS) (o : Nat) (K : Nat → Nat) (b : Nat) (f : Nat → Nat) (s : Nat) : Nat :=
  if opn m b = 29 ∧ xN m b = o ∧ s = 8 + dpn m b - 1 then Mo m o (f (8 + dpn m b - 1)) (yN m b) else trN m o K b f s
def lfF (m : cS) (o k : Nat) (f g : Nat → Nat) : Prop := ∀ s, s < k → mB m o (f s) (g s)
def okF (N k : Nat) (f : Nat → Nat) : Prop := ∀ s, s < k → f s < N
/-- marks of PLACES in an ORDER -/
def okK (m : cS) (o : Nat) (K : Nat → Nat) : Prop := ∀ p s, isP m p s → 1 ≤ s → K p < eln m o
theorem op17 {w : Nat} (h : 14 ≤ w ∧ w ≤ 30) : w = 14 ∨ w = 15 ∨ w = 16 ∨ w = 17 ∨ w = 18 ∨ w = 19 ∨ w = 20 ∨ w = 21 ∨ w = 22 ∨ w = 23 ∨ w = 24 ∨ w = 25 ∨ w = 26 ∨ w = 27 ∨ w = 28 ∨ w = 29 ∨ w = 30 := by omega
theorem tlo_lt {c m : cS} {a b o : Nat} (hO : OOS c m) (ho : o < ocn m) (h : TLR c m a b) : ∀ k, k ≤ tdn m b → tlo m b o k < eln m o
  | 0, _ => (bot_lt hO ho).1
  | k + 1, hk => by
    unfold tlo
    by_cases e : toR m b k = o
    · rw [if_pos e]
      have := (h.2.2.2.1 k (by omega)).2.1
      rw [e] at this
      exact this
    · rw [if_neg e]
      exact tlo_lt hO ho h k (by omega)
/-- depth behind an ACT -/
def dpb (m : cS) (b : Nat) : Nat := dpn m b - tkn m b + gvn m b
theorem tk_of {m : cS} {b w : Nat} (h : opn m b = w) (hw : w ≠ 20) : tkn m b = TK w := by
  unfold tkn
  rw [h, if_neg hw]
theorem tk_20 {m : cS} {b : Nat} (h : opn m b = 20) : tkn m b = pM m (8 * xN m b + yN m b) := by
  unfold tkn
  rw [if_pos h]
theorem gv_of {m : cS} {b w : Nat} (h : opn m b = w) : gvn m b = GT w := by
  unfold gvn
  rw [h]
/-- an ACT that is come to: its DEPTH, what it takes, what stands behind -/
def RCH (m : cS) (M i : Nat) : Prop := m.1 230 (40 * M + i) = nI (dpn m (40 * M + i)) ∧ tkn m (40 * M + i) ≤ dpn m (40 * M + i) ∧ dpn m (40 * M + i) ≤ 8 ∧ dpb m (40 * M + i) ≤ 8
theorem place_f {c m : cS} {x y : Nat} (hC : CCS c m) (hx : x < ccn m) (hy : y < fM m x) : isP m (100 * x + 1 + y) 1 := isP_F hx hy (hC.1.2.2.2.1 x hx).1
theorem place_m {c m : cS} {x y : Nat} (hC : CCS c m) (hx : x < ccn m) (hy : y < qM m x) : isP m (100 * x + 20 + 10 * y) 2 := by
  have := isP_M (r := 0) hx hy (hC.1.2.2.2.2.1 x hx).1 (Nat.zero_le _) (hC.1.2.2.2.2.2 x y hx hy).1
  rwa [if_pos rfl, Nat.add_zero] at this
theorem place_p {c m : cS} {x y r : Nat} (hC : CCS c m) (hx : x < ccn m) (hy : y < qM m x) (hr : r < pM m (8 * x + y)) : isP m (100 * x + 20 + 10 * y + 1 + r) 3 := by
  have := isP_M (r := 1 + r) hx hy (hC.1.2.2.2.2.1 x hx).1 (by omega) (hC.1.2.2.2.2.2 x y hx hy).1
  rw [if_neg (by omega)] at this
  rwa [Nat.add_assoc _ 1 r]
theorem tr_mono {c m : cS} {o M i a : Nat} {K K' f g : Nat → Nat} (hO : OOS c m) (hC : CCS c m) (ho : o < ocn m) (hop : 14 ≤ opn m (40 * M + i) ∧ opn m (40 * M + i) ≤ 30) (hR : OPR c m M a (40 * M + i)) (hl : lcn m M ≤ 8) (hr : RCH m M i) (hK : okK m o K) (hK' : okK m o K') (hKK : ∀ p s, isP m p s → 1 ≤ s → mB m o (K p) (K' p))
    (hf : okF (eln m o) (8 + dpn m (40 * M + i)) f) (hg : okF (eln m o) (8 + dpn m (40 * M + i)) g) (hfg : lfF m o (8 + dpn m (40 * M + i)) f g) :
    okF (eln m o) (8 + dpb m (40 * M + i)) (trN m o K (40 * M + i) f) ∧ lfF m o (8 + dpb m (40 * M + i)) (trN m o K (40 * M + i) f) (trN m o K' (40 * M + i) g) ∧ okF (eln m o) (8 + dpb m (40 * M + i)) (trL m o K (40 * M + i) f) ∧ lfF m o (8 + dpb m (40 * M + i)) (trL m o K (40 * M + i) f) (trL m o K' (40 * M + i) g) := by
  have hLA := (OOS_at hO ho).1
  generalize hb : 40 * M + i = b at *
  obtain ⟨r1, r2, r3, r4⟩ := hr
  rw [hb] at r1 r2 r3 r4
  unfold dpb at r4 ⊢
  have hN : ∀ s, s < 8 + (dpn m b - tkn m b + gvn m b) → trN m o K b f s < eln m o ∧ mB m o (trN m o K b f s) (trN m o K' b g s) := by
    intro s hs
    rcases op17 hop with e | e | e | e | e | e | e | e | e | e | e | e | e | e | e | e | e
    · have hgv := gv_of e
      rw [show GT 14 = 1 from rfl] at hgv
      have htk := tk_of e (by omega)
      rw [show TK 14 = 0 from rfl] at htk
      have ht := tlo_lt hO ho (hR.2.1 (by omega)) (tdn m b) (Nat.le_refl _)
      by_cases h : s = 8 + dpn m b
      · have t1 : trN m o K b f s = tlo m b o (tdn m b) := by
          unfold trN
          simp (disch := first | omega | decide) only [↓neg1, nlit, rI, rL, rI2, rL1, nI_add, pk_mul, sbT, dvT, nmd, ixT, ↓ibT, ltT, ltF, leT, leF, eqT, eqF, nM_ltT, nM_ltF, nM_leT, nM_leF, nM_eqF, nM_eqF', nbT0, nbT1, oI_s, oI_n, natF, natT, nltT, nltF, nleT, nleF, ↓reduceIte, lgc, not_true_eq_false, not_false_eq_true, or_false, false_or, or_true, true_or, and_true, true_and, and_false, false_and, ne_eq, eq_self, or_self, and_self, obs, ↓jn, ↓lt, ↓reduceIte, decide_true, decide_false, Bool.false_eq_true, Bool.and_true, Bool.and_false, Bool.true_and, Bool.false_and, Bool.or_false, Bool.false_or, Bool.or_true, Bool.true_or, e, h]
        have t2 : trN m o K' b g s = tlo m b o (tdn m b) := by
          unfold trN
          simp (disch := first | omega | decide) only [↓neg1, nlit, rI, rL, rI2, rL1, nI_add, pk_mul, sbT, dvT, nmd, ixT, ↓ibT, ltT, ltF, leT, leF, eqT, eqF, nM_ltT, nM_ltF, nM_leT, nM_leF, nM_eqF, nM_eqF', nbT0, nbT1, oI_s, oI_n, natF, natT, nltT, nltF, nleT, nleF, ↓reduceIte, lgc, not_true_eq_false, not_false_eq_true, or_false, false_or, or_true, true_or, and_true, true_and, and_false, false_and, ne_eq, eq_self, or_self, and_self, obs, ↓jn, ↓lt, ↓reduceIte, decide_true, decide_false, Bool.false_eq_true, Bool.and_true, Bool.and_false, Bool.true_and, Bool.false_and, Bool.or_false, Bool.false_or, Bool.or_true, Bool.true_or, e, h]
        rw [t1, t2]
        exact ⟨ht, LA_refl hLA ht⟩
      · have t1 : trN m o K b f s = f s := by
          unfold trN
          simp (disch := first | omega | decide) only [↓neg1, nlit, rI, rL, rI2, rL1, nI_add, pk_mul, sbT, dvT, nmd, ixT, ↓ibT, ltT, ltF, leT, leF, eqT, eqF, nM_ltT, nM_ltF, nM_leT, nM_leF, nM_eqF, nM_eqF', nbT0, nbT1, oI_s, oI_n, natF, natT, nltT, nltF, nleT, nleF, ↓reduceIte, lgc, not_true_eq_false, not_false_eq_true, or_false, false_or, or_true, true_or, and_true, true_and, and_false, false_and, ne_eq, eq_self, or_self, and_self, obs, ↓jn, ↓lt, ↓reduceIte, decide_true, decide_false, Bool.false_eq_true, Bool.and_true, Bool.and_false, Bool.true_and, Bool.false_and, Bool.or_false, Bool.false_or, Bool.or_true, Bool.true_or, e, h]
        have t2 : trN m o K' b g s = g s := by
          unfold trN
          simp (disch := first | omega | decide) only [↓neg1, nlit, rI, rL, rI2, rL1, nI_add, pk_mul, sbT, dvT, nmd, ixT, ↓ibT, ltT, ltF, leT, leF, eqT, eqF, nM_ltT, nM_ltF, nM_leT, nM_leF, nM_eqF, nM_eqF', nbT0, nbT1, oI_s, oI_n, natF, natT, nltT, nltF, nleT, nleF, ↓reduceIte, lgc, not_true_eq_false, not_false_eq_true, or_false, false_or, or_true, true_or, and_true, true_and, and_false, false_and, ne_eq, eq_self, or_self, and_self, obs, ↓jn, ↓lt, ↓reduceIte, decide_true, decide_false, Bool.false_eq_true, Bool.and_true, Bool.and_false, Bool.true_and, Bool.false_and, Bool.or_false, Bool.false_or, Bool.or_true, Bool.true_or, e, h]
        rw [t1, t2]
        have hlt : s < 8 + dpn m b := by omega
        exact ⟨hf s hlt, hfg s hlt⟩
    · have hgv := gv_of e
      rw [show GT 15 = 1 from rfl] at hgv
      have htk := tk_of e (by omega)
      rw [show TK 15 = 0 from rfl] at htk
      have ht := tlo_lt hO ho (hR.2.1 (by omega)) (tdn m b) (Nat.le_refl _)
      by_cases h : s = 8 + dpn m b
      · have t1 : trN m o K b f s = tlo m b o (tdn m b) := by
          unfold trN
          simp (disch := first | omega | decide) only [↓neg1, nlit, rI, rL, rI2, rL1, nI_add, pk_mul, sbT, dvT, nmd, ixT, ↓ibT, ltT, ltF, leT, leF, eqT, eqF, nM_ltT, nM_ltF, nM_leT, nM_leF, nM_eqF, nM_eqF', nbT0, nbT1, oI_s, oI_n, natF, natT, nltT, nltF, nleT, nleF, ↓reduceIte, lgc, not_true_eq_false, not_false_eq_true, or_false, false_or, or_true, true_or, and_true, true_and, and_false, false_and, ne_eq, eq_self, or_self, and_self, obs, ↓jn, ↓lt, ↓reduceIte, decide_true, decide_false, Bool.false_eq_true, Bool.and_true, Bool.and_false, Bool.true_and, Bool.false_and, Bool.or_false, Bool.false_or, Bool.or_true, Bool.true_or, e, h]
        have t2 : trN m o K' b g s = tlo m b o (tdn m b) := by
          unfold trN
          simp (disch := first | omega | decide) only [↓neg1, nlit, rI, rL, rI2, rL1, nI_add, pk_mul, sbT, dvT, nmd, ixT, ↓ibT, ltT, ltF, leT, leF, eqT, eqF, nM_ltT, nM_ltF, nM_leT, nM_leF, nM_eqF, nM_eqF', nbT0, nbT1, oI_s, oI_n, natF, natT, nltT, nltF, nleT, nleF, ↓reduceIte, lgc, not_true_eq_false, not_false_eq_true, or_false, false_or, or_true, true_or, and_true, true_and, and_false, false_and, ne_eq, eq_self, or_self, and_self, obs, ↓jn, ↓lt, ↓reduceIte, decide_true, decide_false, Bool.false_eq_true, Bool.and_true, Bool.and_false, Bool.true_and, Bool.false_and, Bool.or_false, Bool.false_or, Bool.or_true, Bool.true_or, e, h]
        rw [t1, t2]
        exact ⟨ht, LA_refl hLA ht⟩
      · have t1 : trN m o K b f s = f s := by
          unfold trN
          simp (disch := first | omega | decide) only [↓neg1, nlit, rI, rL, rI2, rL1, nI_add, pk_mul, sbT, dvT, nmd, ixT, ↓ibT, ltT, ltF, leT, leF, eqT, eqF, nM_ltT, nM_ltF, nM_leT, nM_leF, nM_eqF, nM_eqF', nbT0, nbT1, oI_s, oI_n, natF, natT, nltT, nltF, nleT, nleF, ↓reduceIte, lgc, not_true_eq_false, not_false_eq_true, or_false, false_or, or_true, true_or, and_true, true_and, and_false, false_and, ne_eq, eq_self, or_self, and_self, obs, ↓jn, ↓lt, ↓reduceIte, decide_true, decide_false, Bool.false_eq_true, Bool.and_true, Bool.and_false, Bool.true_and, Bool.false_and, Bool.or_false, Bool.false_or, Bool.or_true, Bool.true_or, e, h]
        have t2 : trN m o K' b g s = g s := by
          unfold trN
          simp (disch := first | omega | decide) only [↓neg1, nlit, rI, rL, rI2, rL1, nI_add, pk_mul, sbT, dvT, nmd, ixT, ↓ibT, ltT, ltF, leT, leF, eqT, eqF, nM_ltT, nM_ltF, nM_leT, nM_leF, nM_eqF, nM_eqF', nbT0, nbT1, oI_s, oI_n, natF, natT, nltT, nltF, nleT, nleF, ↓reduceIte, lgc, not_true_eq_false, not_false_eq_true, or_false, false_or, or_true, true_or, and_true, true_and, and_false, false_and, ne_eq, eq_self, or_self, and_self, obs, ↓jn, ↓lt, ↓reduceIte, decide_true, decide_false, Bool.false_eq_true, Bool.and_true, Bool.and_false, Bool.true_and, Bool.false_and, Bool.or_false, Bool.false_or, Bool.or_true, Bool.true_or, e, h]
        rw [t1, t2]
        have hlt : s < 8 + dpn m b := by omega
        exact ⟨hf s hlt, hfg s hlt⟩
    · have hgv := gv_of e
      rw [show GT 16 = 1 from rfl] at hgv
      have htk := tk_of e (by omega)
      rw [show TK 16 = 0 from rfl] at htk
      have hx := (hR.2.2.1 (by omega)).1
      by_cases h : s = 8 + dpn m b
      · have t1 : trN m o K b f s = f (xN m b) := by
          unfold trN
          simp (disch := first | omega | decide) only [↓neg1, nlit, rI, rL, rI2, rL1, nI_add, pk_mul, sbT, dvT, nmd, ixT, ↓ibT, ltT, ltF, leT, leF, eqT, eqF, nM_ltT, nM_ltF, nM_leT, nM_leF, nM_eqF, nM_eqF', nbT0, nbT1, oI_s, oI_n, natF, natT, nltT, nltF, nleT, nleF, ↓reduceIte, lgc, not_true_eq_false, not_false_eq_true, or_false, false_or, or_true, true_or, and_true, true_and, and_false, false_and, ne_eq, eq_self, or_self, and_self, obs, ↓jn, ↓lt, ↓reduceIte, decide_true, decide_false, Bool.false_eq_true, Bool.and_true, Bool.and_false, Bool.true_and, Bool.false_and, Bool.or_false, Bool.false_or, Bool.or_true, Bool.true_or, e, h]
        have t2 : trN m o K' b g s = g (xN m b) := by
          unfold trN
          simp (disch := first | omega | decide) only [↓neg1, nlit, rI, rL, rI2, rL1, nI_add, pk_mul, sbT, dvT, nmd, ixT, ↓ibT, ltT, ltF, leT, leF, eqT, eqF, nM_ltT, nM_ltF, nM_leT, nM_leF, nM_eqF, nM_eqF', nbT0, nbT1, oI_s, oI_n, natF, natT, nltT, nltF, nleT, nleF, ↓reduceIte, lgc, not_true_eq_false, not_false_eq_true, or_false, false_or, or_true, true_or, and_true, true_and, and_false, false_and, ne_eq, eq_self, or_self, and_self, obs, ↓jn, ↓lt, ↓reduceIte, decide_true, decide_false, Bool.false_eq_true, Bool.and_true, Bool.and_false, Bool.true_and, Bool.false_and, Bool.or_false, Bool.false_or, Bool.or_true, Bool.true_or, e, h]
        rw [t1, t2]
        exact ⟨hf _ (by omega), hfg _ (by omega)⟩
      · have t1 : trN m o K b f s = f s := by
          unfold trN
          simp (disch := first | omega | decide) only [↓neg1, nlit, rI, rL, rI2, rL1, nI_add, pk_mul, sbT, dvT, nmd, ixT, ↓ibT, ltT, ltF, leT, leF, eqT, eqF, nM_ltT, nM_ltF, nM_leT, nM_leF, nM_eqF, nM_eqF', nbT0, nbT1, oI_s, oI_n, natF, natT, nltT, nltF, nleT, nleF, ↓reduceIte, lgc, not_true_eq_false, not_false_eq_true, or_false, false_or, or_true, true_or, and_true, true_and, and_false, false_and, ne_eq, eq_self, or_self, and_self, obs, ↓jn, ↓lt, ↓reduceIte, decide_true, decide_false, Bool.false_eq_true, Bool.and_true, Bool.and_false, Bool.true_and, Bool.false_and, Bool.or_false, Bool.false_or, Bool.or_true, Bool.true_or, e, h]
        have t2 : trN m o K' b g s = g s := by
          unfold trN
          simp (disch := first | omega | decide) only [↓neg1, nlit, rI, rL, rI2, rL1, nI_add, pk_mul, sbT, dvT, nmd, ixT, ↓ibT, ltT, ltF, leT, leF, eqT, eqF, nM_ltT, nM_ltF, nM_leT, nM_leF, nM_eqF, nM_eqF', nbT0, nbT1, oI_s, oI_n, natF, natT, nltT, nltF, nleT, nleF, ↓reduceIte, lgc, not_true_eq_false, not_false_eq_true, or_false, false_or, or_true, true_or, and_true, true_and, and_false, false_and, ne_eq, eq_self, or_self, and_self, obs, ↓jn, ↓lt, ↓reduceIte, decide_true, decide_false, Bool.false_eq_true, Bool.and_true, Bool.and_false, Bool.true_and, Bool.false_and, Bool.or_false, Bool.false_or, Bool.or_true, Bool.true_or, e, h]
        rw [t1, t2]
        have hlt : s < 8 + dpn m b := by omega
        exact ⟨hf s hlt, hfg s hlt⟩
    · have hgv := gv_of e
      rw [show GT 17 = 0 from rfl] at hgv
      have htk := tk_of e (by omega)
      rw [show TK 17 = 1 from rfl] at htk
      have hx := (hR.2.2.1 (by omega)).1
      by_cases h : s = xN m b
      · have t1 : trN m o K b f s = f (8 + dpn m b - 1) := by
          unfold trN
          simp (disch := first | omega | decide) only [↓neg1, nlit, rI, rL, rI2, rL1, nI_add, pk_mul, sbT, dvT, nmd, ixT, ↓ibT, ltT, ltF, leT, leF, eqT, eqF, nM_ltT, nM_ltF, nM_leT, nM_leF, nM_eqF, nM_eqF', nbT0, nbT1, oI_s, oI_n, natF, natT, nltT, nltF, nleT, nleF, ↓reduceIte, lgc, not_true_eq_false, not_false_eq_true, or_false, false_or, or_true, true_or, and_true, true_and, and_false, false_and, ne_eq, eq_self, or_self, and_self, obs, ↓jn, ↓lt, ↓reduceIte, decide_true, decide_false, Bool.false_eq_true, Bool.and_true, Bool.and_false, Bool.true_and, Bool.false_and, Bool.or_false, Bool.false_or, Bool.or_true, Bool.true_or, e, h]
        have t2 : trN m o K' b g s = g (8 + dpn m b - 1) := by
          unfold trN
          simp (disch := first | omega | decide) only [↓neg1, nlit, rI, rL, rI2, rL1, nI_add, pk_mul, sbT, dvT, nmd, ixT, ↓ibT, ltT, ltF, leT, leF, eqT, eqF, nM_ltT, nM_ltF, nM_leT, nM_leF, nM_eqF, nM_eqF', nbT0, nbT1, oI_s, oI_n, natF, natT, nltT, nltF, nleT, nleF, ↓reduceIte, lgc, not_true_eq_false, not_false_eq_true, or_false, false_or, or_true, true_or, and_true, true_and, and_false, false_and, ne_eq, eq_self, or_self, and_self, obs, ↓jn, ↓lt, ↓reduceIte, decide_true, decide_false, Bool.false_eq_true, Bool.and_true, Bool.and_false, Bool.true_and, Bool.false_and, Bool.or_false, Bool.false_or, Bool.or_true, Bool.true_or, e, h]
        rw [t1, t2]
        exact ⟨hf _ (by omega), hfg _ (by omega)⟩
      · have t1 : trN m o K b f s = f s := by
          unfold trN
          simp (disch := first | omega | decide) only [↓neg1, nlit, rI, rL, rI2, rL1, nI_add, pk_mul, sbT, dvT, nmd, ixT, ↓ibT, ltT, ltF, leT, leF, eqT, eqF, nM_ltT, nM_ltF, nM_leT, nM_leF, nM_eqF, nM_eqF', nbT0, nbT1, oI_s, oI_n, natF, natT, nltT, nltF, nleT, nleF, ↓reduceIte, lgc, not_true_eq_false, not_false_eq_true, or_false, false_or, or_true, true_or, and_true, true_and, and_false, false_and, ne_eq, eq_self, or_self, and_self, obs, ↓jn, ↓lt, ↓reduceIte, decide_true, decide_false, Bool.false_eq_true, Bool.and_true, Bool.and_false, Bool.true_and, Bool.false_and, Bool.or_false, Bool.false_or, Bool.or_true, Bool.true_or, e, h]
        have t2 : trN m o K' b g s = g s := by
          unfold trN
          simp (disch := first | omega | decide) only [↓neg1, nlit, rI, rL, rI2, rL1, nI_add, pk_mul, sbT, dvT, nmd, ixT, ↓ibT, ltT, ltF, leT, leF, eqT, eqF, nM_ltT, nM_ltF, nM_leT, nM_leF, nM_eqF, nM_eqF', nbT0, nbT1, oI_s, oI_n, natF, natT, nltT, nltF, nleT, nleF, ↓reduceIte, lgc, not_true_eq_false, not_false_eq_true, or_false, false_or, or_true, true_or, and_true, true_and, and_false, false_and, ne_eq, eq_self, or_self, and_self, obs, ↓jn, ↓lt, ↓reduceIte, decide_true, decide_false, Bool.false_eq_true, Bool.and_true, Bool.and_false, Bool.true_and, Bool.false_and, Bool.or_false, Bool.false_or, Bool.or_true, Bool.true_or, e, h]
        rw [t1, t2]
        have hlt : s < 8 + dpn m b := by omega
        exact ⟨hf s hlt, hfg s hlt⟩
    · have hgv := gv_of e
      rw [show GT 18 = 1 from rfl] at hgv
      have htk := tk_of e (by omega)
      rw [show TK 18 = 0 from rfl] at htk
      have x1 := (hR.2.2.2.1 (by omega)).1
      have x2 := (hR.2.2.2.1 (by omega)).2.1
      have hp := place_f hC x1 x2
      by_cases h : s = 8 + dpn m b
      · have t1 : trN m o K b f s = K (100 * xN m b + 1 + yN m b) := by
          unfold trN
          simp (disch := first | omega | decide) only [↓neg1, nlit, rI, rL, rI2, rL1, nI_add, pk_mul, sbT, dvT, nmd, ixT, ↓ibT, ltT, ltF, leT, leF, eqT, eqF, nM_ltT, nM_ltF, nM_leT, nM_leF, nM_eqF, nM_eqF', nbT0, nbT1, oI_s, oI_n, natF, natT, nltT, nltF, nleT, nleF, ↓reduceIte, lgc, not_true_eq_false, not_false_eq_true, or_false, false_or, or_true, true_or, and_true, true_and, and_false, false_and, ne_eq, eq_self, or_self, and_self, obs, ↓jn, ↓lt, ↓reduceIte, decide_true, decide_false, Bool.false_eq_true, Bool.and_true, Bool.and_false, Bool.true_and, Bool.false_and, Bool.or_false, Bool.false_or, Bool.or_true, Bool.true_or, e, h]
        have t2 : trN m o K' b g s = K' (100 * xN m b + 1 + yN m b) := by
          unfold trN
          simp (disch := first | omega | decide) only [↓neg1, nlit, rI, rL, rI2, rL1, nI_add, pk_mul, sbT, dvT, nmd, ixT, ↓ibT, ltT, ltF, leT, leF, eqT, eqF, nM_ltT, nM_ltF, nM_leT, nM_leF, nM_eqF, nM_eqF', nbT0, nbT1, oI_s, oI_n, natF, natT, nltT, nltF, nleT, nleF, ↓reduceIte, lgc, not_true_eq_false, not_false_eq_true, or_false, false_or, or_true, true_or, and_true, true_and, and_false, false_and, ne_eq, eq_self, or_self, and_self, obs, ↓jn, ↓lt, ↓reduceIte, decide_true, decide_false, Bool.false_eq_true, Bool.and_true, Bool.and_false, Bool.true_and, Bool.false_and, Bool.or_false, Bool.false_or, Bool.or_true, Bool.true_or, e, h]
        rw [t1, t2]
        exact ⟨hK _ _ hp (by omega), hKK _ _ hp (by omega)⟩
      · have t1 : trN m o K b f s = f s := by
          unfold trN
          simp (disch := first | omega | decide) only [↓neg1, nlit, rI, rL, rI2, rL1, nI_add, pk_mul, sbT, dvT, nmd, ixT, ↓ibT, ltT, ltF, leT, leF, eqT, eqF, nM_ltT, nM_ltF, nM_leT, nM_leF, nM_eqF, nM_eqF', nbT0, nbT1, oI_s, oI_n, natF, natT, nltT, nltF, nleT, nleF, ↓reduceIte, lgc, not_true_eq_false, not_false_eq_true, or_false, false_or, or_true, true_or, and_true, true_and, and_false, false_and, ne_eq, eq_self, or_self, and_self, obs, ↓jn, ↓lt, ↓reduceIte, decide_true, decide_false, Bool.false_eq_true, Bool.and_true, Bool.and_false, Bool.true_and, Bool.false_and, Bool.or_false, Bool.false_or, Bool.or_true, Bool.true_or, e, h]
        have t2 : trN m o K' b g s = g s := by
          unfold trN
          simp (disch := first | omega | decide) only [↓neg1, nlit, rI, rL, rI2, rL1, nI_add, pk_mul, sbT, dvT, nmd, ixT, ↓ibT, ltT, ltF, leT, leF, eqT, eqF, nM_ltT, nM_ltF, nM_leT, nM_leF, nM_eqF, nM_eqF', nbT0, nbT1, oI_s, oI_n, natF, natT, nltT, nltF, nleT, nleF, ↓reduceIte, lgc, not_true_eq_false, not_false_eq_true, or_false, false_or, or_true, true_or, and_true, true_and, and_false, false_and, ne_eq, eq_self, or_self, and_self, obs, ↓jn, ↓lt, ↓reduceIte, decide_true, decide_false, Bool.false_eq_true, Bool.and_true, Bool.and_false, Bool.true_and, Bool.false_and, Bool.or_false, Bool.false_or, Bool.or_true, Bool.true_or, e, h]
        rw [t1, t2]
        have hlt : s < 8 + dpn m b := by omega
        exact ⟨hf s hlt, hfg s hlt⟩
    · have hgv := gv_of e
      rw [show GT 19 = 0 from rfl] at hgv
      have htk := tk_of e (by omega)
      rw [show TK 19 = 1 from rfl] at htk
      have t1 : trN m o K b f s = f s := by
        unfold trN
        simp (disch := first | omega | decide) only [↓neg1, nlit, rI, rL, rI2, rL1, nI_add, pk_mul, sbT, dvT, nmd, ixT, ↓ibT, ltT, ltF, leT, leF, eqT, eqF, nM_ltT, nM_ltF, nM_leT, nM_leF, nM_eqF, nM_eqF', nbT0, nbT1, oI_s, oI_n, natF, natT, nltT, nltF, nleT, nleF, ↓reduceIte, lgc, not_true_eq_false, not_false_eq_true, or_false, false_or, or_true, true_or, and_true, true_and, and_false, false_and, ne_eq, eq_self, or_self, and_self, obs, ↓jn, ↓lt, ↓reduceIte, decide_true, decide_false, Bool.false_eq_true, Bool.and_true, Bool.and_false, Bool.true_and, Bool.false_and, Bool.or_false, Bool.false_or, Bool.or_true, Bool.true_or, e]
      have t2 : trN m o K' b g s = g s := by
        unfold trN
        simp (disch := first | omega | decide) only [↓neg1, nlit, rI, rL, rI2, rL1, nI_add, pk_mul, sbT, dvT, nmd, ixT, ↓ibT, ltT, ltF, leT, leF, eqT, eqF, nM_ltT, nM_ltF, nM_leT, nM_leF, nM_eqF, nM_eqF', nbT0, nbT1, oI_s, oI_n, natF, natT, nltT, nltF, nleT, nleF, ↓reduceIte, lgc, not_true_eq_false, not_false_eq_true, or_false, false_or, or_true, true_or, and_true, true_and, and_false, false_and, ne_eq, eq_self, or_self, and_self, obs, ↓jn, ↓lt, ↓reduceIte, decide_true, decide_false, Bool.false_eq_true, Bool.and_true, Bool.and_false, Bool.true_and, Bool.false_and, Bool.or_false, Bool.false_or, Bool.or_true, Bool.true_or, e]
      rw [t1, t2]
      have hlt : s < 8 + dpn m b := by omega
      exact ⟨hf s hlt, hfg s hlt⟩
    · have hgv := gv_of e
      rw [show GT 20 = 1 from rfl] at hgv
      have htk := tk_20 e
      have x1 := (hR.2.2.2.2.1 e).1
      have x2 := (hR.2.2.2.2.1 e).2.1
      have hp := place_m hC x1 x2
      by_cases h : s = 8 + dpn m b - pM m (8 * xN m b + yN m b)
      · have t1 : trN m o K b f s = K (100 * xN m b + 20 + 10 * yN m b) := by
          unfold trN
          simp (disch := first | omega | decide) only [↓neg1, nlit, rI, rL, rI2, rL1, nI_add, pk_mul, sbT, dvT, nmd, ixT, ↓ibT, ltT, ltF, leT, leF, eqT, eqF, nM_ltT, nM_ltF, nM_leT, nM_leF, nM_eqF, nM_eqF', nbT0, nbT1, oI_s, oI_n, natF, natT, nltT, nltF, nleT, nleF, ↓reduceIte, lgc, not_true_eq_false, not_false_eq_true, or_false, false_or, or_true, true_or, and_true, true_and, and_false, false_and, ne_eq, eq_self, or_self, and_self, obs, ↓jn, ↓lt, ↓reduceIte, decide_true, decide_false, Bool.false_eq_true, Bool.and_true, Bool.and_false, Bool.true_and, Bool.false_and, Bool.or_false, Bool.false_or, Bool.or_true, Bool.true_or, e, h]
        have t2 : trN m o K' b g s = K' (100 * xN m b + 20 + 10 * yN m b) := by
          unfold trN
          simp (disch := first | omega | decide) only [↓neg1, nlit, rI, rL, rI2, rL1, nI_add, pk_mul, sbT, dvT, nmd, ixT, ↓ibT, ltT, ltF, leT, leF, eqT, eqF, nM_ltT, nM_ltF, nM_leT, nM_leF, nM_eqF, nM_eqF', nbT0, nbT1, oI_s, oI_n, natF, natT, nltT, nltF, nleT, nleF, ↓reduceIte, lgc, not_true_eq_false, not_false_eq_true, or_false, false_or, or_true, true_or, and_true, true_and, and_false, false_and, ne_eq, eq_self, or_self, and_self, obs, ↓jn, ↓lt, ↓reduceIte, decide_true, decide_false, Bool.false_eq_true, Bool.and_true, Bool.and_false, Bool.true_and, Bool.false_and, Bool.or_false, Bool.false_or, Bool.or_true, Bool.true_or, e, h]
        rw [t1, t2]
        exact ⟨hK _ _ hp (by omega), hKK _ _ hp (by omega)⟩
      · have t1 : trN m o K b f s = f s := by
          unfold trN
          simp (disch := first | omega | decide) only [↓neg1, nlit, rI, rL, rI2, rL1, nI_add, pk_mul, sbT, dvT, nmd, ixT, ↓ibT, ltT, ltF, leT, leF, eqT, eqF, nM_ltT, nM_ltF, nM_leT, nM_leF, nM_eqF, nM_eqF', nbT0, nbT1, oI_s, oI_n, natF, natT, nltT, nltF, nleT, nleF, ↓reduceIte, lgc, not_true_eq_false, not_false_eq_true, or_false, false_or, or_true, true_or, and_true, true_and, and_false, false_and, ne_eq, eq_self, or_self, and_self, obs, ↓jn, ↓lt, ↓reduceIte, decide_true, decide_false, Bool.false_eq_true, Bool.and_true, Bool.and_false, Bool.true_and, Bool.false_and, Bool.or_false, Bool.false_or, Bool.or_true, Bool.true_or, e, h]
        have t2 : trN m o K' b g s = g s := by
          unfold trN
          simp (disch := first | omega | decide) only [↓neg1, nlit, rI, rL, rI2, rL1, nI_add, pk_mul, sbT, dvT, nmd, ixT, ↓ibT, ltT, ltF, leT, leF, eqT, eqF, nM_ltT, nM_ltF, nM_leT, nM_leF, nM_eqF, nM_eqF', nbT0, nbT1, oI_s, oI_n, natF, natT, nltT, nltF, nleT, nleF, ↓reduceIte, lgc, not_true_eq_false, not_false_eq_true, or_false, false_or, or_true, true_or, and_true, true_and, and_false, false_and, ne_eq, eq_self, or_self, and_self, obs, ↓jn, ↓lt, ↓reduceIte, decide_true, decide_false, Bool.false_eq_true, Bool.and_true, Bool.and_false, Bool.true_and, Bool.false_and, Bool.or_false, Bool.false_or, Bool.or_true, Bool.true_or, e, h]
        rw [t1, t2]
        have hlt : s < 8 + dpn m b := by omega
        exact ⟨hf s hlt, hfg s hlt⟩
    · have hgv := gv_of e
      rw [show GT 21 = 0 from rfl] at hgv
      have htk := tk_of e (by omega)
      rw [show TK 21 = 1 from rfl] at htk
      have t1 : trN m o K b f s = f s := by
        unfold trN
        simp (disch := first | omega | decide) only [↓neg1, nlit, rI, rL, rI2, rL1, nI_add, pk_mul, sbT, dvT, nmd, ixT, ↓ibT, ltT, ltF, leT, leF, eqT, eqF, nM_ltT, nM_ltF, nM_leT, nM_leF, nM_eqF, nM_eqF', nbT0, nbT1, oI_s, oI_n, natF, natT, nltT, nltF, nleT, nleF, ↓reduceIte, lgc, not_true_eq_false, not_false_eq_true, or_false, false_or, or_true, true_or, and_true, true_and, and_false, false_and, ne_eq, eq_self, or_self, and_self, obs, ↓jn, ↓lt, ↓reduceIte, decide_true, decide_false, Bool.false_eq_true, Bool.and_true, Bool.and_false, Bool.true_and, Bool.false_and, Bool.or_false, Bool.false_or, Bool.or_true, Bool.true_or, e]
      have t2 : trN m o K' b g s = g s := by
        unfold trN
        simp (disch := first | omega | decide) only [↓neg1, nlit, rI, rL, rI2, rL1, nI_add, pk_mul, sbT, dvT, nmd, ixT, ↓ibT, ltT, ltF, leT, leF, eqT, eqF, nM_ltT, nM_ltF, nM_leT, nM_leF, nM_eqF, nM_eqF', nbT0, nbT1, oI_s, oI_n, natF, natT, nltT, nltF, nleT, nleF, ↓reduceIte, lgc, not_true_eq_false, not_false_eq_true, or_false, false_or, or_true, true_or, and_true, true_and, and_false, false_and, ne_eq, eq_self, or_self, and_self, obs, ↓jn, ↓lt, ↓reduceIte, decide_true, decide_false, Bool.false_eq_true, Bool.and_true, Bool.and_false, Bool.true_and, Bool.false_and, Bool.or_false, Bool.false_or, Bool.or_true, Bool.true_or, e]
      rw [t1, t2]
      have hlt : s < 8 + dpn m b := by omega
      exact ⟨hf s hlt, hfg s hlt⟩
    · have hgv := gv_of e
      rw [show GT 22 = 1 from rfl] at hgv
      have htk := tk_of e (by omega)
      rw [show TK 22 = 2 from rfl] at htk
      have u1 := hf (8 + dpn m b - 2) (by omega)
      have u2 := hf (8 + dpn m b - 1) (by omega)
      have u3 := hg (8 + dpn m b - 2) (by omega)
      have u4 := hg (8 + dpn m b - 1) (by omega)
      by_cases h : s = 8 + dpn m b - 2
      · have t1 : trN m o K b f s = Jo m o (f (8 + dpn m b - 2)) (f (8 + dpn m b - 1)) := by
          unfold trN
          simp (disch := first | omega | decide) only [↓neg1, nlit, rI, rL, rI2, rL1, nI_add, pk_mul, sbT, dvT, nmd, ixT, ↓ibT, ltT, ltF, leT, leF, eqT, eqF, nM_ltT, nM_ltF, nM_leT, nM_leF, nM_eqF, nM_eqF', nbT0, nbT1, oI_s, oI_n, natF, natT, nltT, nltF, nleT, nleF, ↓reduceIte, lgc, not_true_eq_false, not_false_eq_true, or_false, false_or, or_true, true_or, and_true, true_and, and_false, false_and, ne_eq, eq_self, or_self, and_self, obs, ↓jn, ↓lt, ↓reduceIte, decide_true, decide_false, Bool.false_eq_true, Bool.and_true, Bool.and_false, Bool.true_and, Bool.false_and, Bool.or_false, Bool.false_or, Bool.or_true, Bool.true_or, e, h]
        have t2 : trN m o K' b g s = Jo m o (g (8 + dpn m b - 2)) (g (8 + dpn m b - 1)) := by
          unfold trN
          simp (disch := first | omega | decide) only [↓neg1, nlit, rI, rL, rI2, rL1, nI_add, pk_mul, sbT, dvT, nmd, ixT, ↓ibT, ltT, ltF, leT, leF, eqT, eqF, nM_ltT, nM_ltF, nM_leT, nM_leF, nM_eqF, nM_eqF', nbT0, nbT1, oI_s, oI_n, natF, natT, nltT, nltF, nleT, nleF, ↓reduceIte, lgc, not_true_eq_false, not_false_eq_true, or_false, false_or, or_true, true_or, and_true, true_and, and_false, false_and, ne_eq, eq_self, or_self, and_self, obs, ↓jn, ↓lt, ↓reduceIte, decide_true, decide_false, Bool.false_eq_true, Bool.and_true, Bool.and_false, Bool.true_and, Bool.false_and, Bool.or_false, Bool.false_or, Bool.or_true, Bool.true_or, e, h]
        rw [t1, t2]
        exact ⟨(LA_J hLA u1 u2).1, LA_Jmono hLA u1 u2 u3 u4 (hfg _ (by omega)) (hfg _ (by omega))⟩
      · have t1 : trN m o K b f s = f s := by
          unfold trN
          simp (disch := first | omega | decide) only [↓neg1, nlit, rI, rL, rI2, rL1, nI_add, pk_mul, sbT, dvT, nmd, ixT, ↓ibT, ltT, ltF, leT, leF, eqT, eqF, nM_ltT, nM_ltF, nM_leT, nM_leF, nM_eqF, nM_eqF', nbT0, nbT1, oI_s, oI_n, natF, natT, nltT, nltF, nleT, nleF, ↓reduceIte, lgc, not_true_eq_false, not_false_eq_true, or_false, false_or, or_true, true_or, and_true, true_and, and_false, false_and, ne_eq, eq_self, or_self, and_self, obs, ↓jn, ↓lt, ↓reduceIte, decide_true, decide_false, Bool.false_eq_true, Bool.and_true, Bool.and_false, Bool.true_and, Bool.false_and, Bool.or_false, Bool.false_or, Bool.or_true, Bool.true_or, e, h]
        have t2 : trN m o K' b g s = g s := by
          unfold trN
          simp (disch := first | omega | decide) only [↓neg1, nlit, rI, rL, rI2, rL1, nI_add, pk_mul, sbT, dvT, nmd, ixT, ↓ibT, ltT, ltF, leT, leF, eqT, eqF, nM_ltT, nM_ltF, nM_leT, nM_leF, nM_eqF, nM_eqF', nbT0, nbT1, oI_s, oI_n, natF, natT, nltT, nltF, nleT, nleF, ↓reduceIte, lgc, not_true_eq_false, not_false_eq_true, or_false, false_or, or_true, true_or, and_true, true_and, and_false, false_and, ne_eq, eq_self, or_self, and_self, obs, ↓jn, ↓lt, ↓reduceIte, decide_true, decide_false, Bool.false_eq_true, Bool.and_true, Bool.and_false, Bool.true_and, Bool.false_and, Bool.or_false, Bool.false_or, Bool.or_true, Bool.true_or, e, h]
        rw [t1, t2]
        have hlt : s < 8 + dpn m b := by omega
        exact ⟨hf s hlt, hfg s hlt⟩
    · have hgv := gv_of e
      rw [show GT 23 = 1 from rfl] at hgv
      have htk := tk_of e (by omega)
      rw [show TK 23 = 2 from rfl] at htk
      have u1 := hf (8 + dpn m b - 2) (by omega)
      have u2 := hf (8 + dpn m b - 1) (by omega)
      have u3 := hg (8 + dpn m b - 2) (by omega)
      have u4 := hg (8 + dpn m b - 1) (by omega)
      by_cases h : s = 8 + dpn m b - 2
      · have t1 : trN m o K b f s = Jo m o (f (8 + dpn m b - 2)) (f (8 + dpn m b - 1)) := by
          unfold trN
          simp (disch := first | omega | decide) only [↓neg1, nlit, rI, rL, rI2, rL1, nI_add, pk_mul, sbT, dvT, nmd, ixT, ↓ibT, ltT, ltF, leT, leF, eqT, eqF, nM_ltT, nM_ltF, nM_leT, nM_leF, nM_eqF, nM_eqF', nbT0, nbT1, oI_s, oI_n, natF, natT, nltT, nltF, nleT, nleF, ↓reduceIte, lgc, not_true_eq_false, not_false_eq_true, or_false, false_or, or_true, true_or, and_true, true_and, and_false, false_and, ne_eq, eq_self, or_self, and_self, obs, ↓jn, ↓lt, ↓reduceIte, decide_true, decide_false, Bool.false_eq_true, Bool.and_true, Bool.and_false, Bool.true_and, Bool.false_and, Bool.or_false, Bool.false_or, Bool.or_true, Bool.true_or, e, h]
        have t2 : trN m o K' b g s = Jo m o (g (8 + dpn m b - 2)) (g (8 + dpn m b - 1)) := by
          unfold trN
          simp (disch := first | omega | decide) only [↓neg1, nlit, rI, rL, rI2, rL1, nI_add, pk_mul, sbT, dvT, nmd, ixT, ↓ibT, ltT, ltF, leT, leF, eqT, eqF, nM_ltT, nM_ltF, nM_leT, nM_leF, nM_eqF, nM_eqF', nbT0, nbT1, oI_s, oI_n, natF, natT, nltT, nltF, nleT, nleF, ↓reduceIte, lgc, not_true_eq_false, not_false_eq_true, or_false, false_or, or_true, true_or, and_true, true_and, and_false, false_and, ne_eq, eq_self, or_self, and_self, obs, ↓jn, ↓lt, ↓reduceIte, decide_true, decide_false, Bool.false_eq_true, Bool.and_true, Bool.and_false, Bool.true_and, Bool.false_and, Bool.or_false, Bool.false_or, Bool.or_true, Bool.true_or, e, h]
        rw [t1, t2]
        exact ⟨(LA_J hLA u1 u2).1, LA_Jmono hLA u1 u2 u3 u4 (hfg _ (by omega)) (hfg _ (by omega))⟩
      · have t1 : trN m o K b f s = f s := by
          unfold trN
          simp (disch := first | omega | decide) only [↓neg1, nlit, rI, rL, rI2, rL1, nI_add, pk_mul, sbT, dvT, nmd, ixT, ↓ibT, ltT, ltF, leT, leF, eqT, eqF, nM_ltT, nM_ltF, nM_leT, nM_leF, nM_eqF, nM_eqF', nbT0, nbT1, oI_s, oI_n, natF, natT, nltT, nltF, nleT, nleF, ↓reduceIte, lgc, not_true_eq_false, not_false_eq_true, or_false, false_or, or_true, true_or, and_true, true_and, and_false, false_and, ne_eq, eq_self, or_self, and_self, obs, ↓jn, ↓lt, ↓reduceIte, decide_true, decide_false, Bool.false_eq_true, Bool.and_true, Bool.and_false, Bool.true_and, Bool.false_and, Bool.or_false, Bool.false_or, Bool.or_true, Bool.true_or, e, h]
        have t2 : trN m o K' b g s = g s := by
          unfold trN
          simp (disch := first | omega | decide) only [↓neg1, nlit, rI, rL, rI2, rL1, nI_add, pk_mul, sbT, dvT, nmd, ixT, ↓ibT, ltT, ltF, leT, leF, eqT, eqF, nM_ltT, nM_ltF, nM_leT, nM_leF, nM_eqF, nM_eqF', nbT0, nbT1, oI_s, oI_n, natF, natT, nltT, nltF, nleT, nleF, ↓reduceIte, lgc, not_true_eq_false, not_false_eq_true, or_false, false_or, or_true, true_or, and_true, true_and, and_false, false_and, ne_eq, eq_self, or_self, and_self, obs, ↓jn, ↓lt, ↓reduceIte, decide_true, decide_false, Bool.false_eq_true, Bool.and_true, Bool.and_false, Bool.true_and, Bool.false_and, Bool.or_false, Bool.false_or, Bool.or_true, Bool.true_or, e, h]
        rw [t1, t2]
        have hlt : s < 8 + dpn m b := by omega
        exact ⟨hf s hlt, hfg s hlt⟩
    · have hgv := gv_of e
      rw [show GT 24 = 1 from rfl] at hgv
      have htk := tk_of e (by omega)
      rw [show TK 24 = 2 from rfl] at htk
      have u1 := hf (8 + dpn m b - 2) (by omega)
      have u2 := hf (8 + dpn m b - 1) (by omega)
      have u3 := hg (8 + dpn m b - 2) (by omega)
      have u4 := hg (8 + dpn m b - 1) (by omega)
      by_cases h : s = 8 + dpn m b - 2
      · have t1 : trN m o K b f s = Jo m o (f (8 + dpn m b - 2)) (f (8 + dpn m b - 1)) := by
          unfold trN
          simp (disch := first | omega | decide) only [↓neg1, nlit, rI, rL, rI2, rL1, nI_add, pk_mul, sbT, dvT, nmd, ixT, ↓ibT, ltT, ltF, leT, leF, eqT, eqF, nM_ltT, nM_ltF, nM_leT, nM_leF, nM_eqF, nM_eqF', nbT0, nbT1, oI_s, oI_n, natF, natT, nltT, nltF, nleT, nleF, ↓reduceIte, lgc, not_true_eq_false, not_false_eq_true, or_false, false_or, or_true, true_or, and_true, true_and, and_false, false_and, ne_eq, eq_self, or_self, and_self, obs, ↓jn, ↓lt, ↓reduceIte, decide_true, decide_false, Bool.false_eq_true, Bool.and_true, Bool.and_false, Bool.true_and, Bool.false_and, Bool.or_false, Bool.false_or, Bool.or_true, Bool.true_or, e, h]
        have t2 : trN m o K' b g s = Jo m o (g (8 + dpn m b - 2)) (g (8 + dpn m b - 1)) := by
          unfold trN
          simp (disch := first | omega | decide) only [↓neg1, nlit, rI, rL, rI2, rL1, nI_add, pk_mul, sbT, dvT, nmd, ixT, ↓ibT, ltT, ltF, leT, leF, eqT, eqF, nM_ltT, nM_ltF, nM_leT, nM_leF, nM_eqF, nM_eqF', nbT0, nbT1, oI_s, oI_n, natF, natT, nltT, nltF, nleT, nleF, ↓reduceIte, lgc, not_true_eq_false, not_false_eq_true, or_false, false_or, or_true, true_or, and_true, true_and, and_false, false_and, ne_eq, eq_self, or_self, and_self, obs, ↓jn, ↓lt, ↓reduceIte, decide_true, decide_false, Bool.false_eq_true, Bool.and_true, Bool.and_false, Bool.true_and, Bool.false_and, Bool.or_false, Bool.false_or, Bool.or_true, Bool.true_or, e, h]
        rw [t1, t2]
        exact ⟨(LA_J hLA u1 u2).1, LA_Jmono hLA u1 u2 u3 u4 (hfg _ (by omega)) (hfg _ (by omega))⟩
      · have t1 : trN m o K b f s = f s := by
          unfold trN
          simp (disch := first | omega | decide) only [↓neg1, nlit, rI, rL, rI2, rL1, nI_add, pk_mul, sbT, dvT, nmd, ixT, ↓ibT, ltT, ltF, leT, leF, eqT, eqF, nM_ltT, nM_ltF, nM_leT, nM_leF, nM_eqF, nM_eqF', nbT0, nbT1, oI_s, oI_n, natF, natT, nltT, nltF, nleT, nleF, ↓reduceIte, lgc, not_true_eq_false, not_false_eq_true, or_false, false_or, or_true, true_or, and_true, true_and, and_false, false_and, ne_eq, eq_self, or_self, and_self, obs, ↓jn, ↓lt, ↓reduceIte, decide_true, decide_false, Bool.false_eq_true, Bool.and_true, Bool.and_false, Bool.true_and, Bool.false_and, Bool.or_false, Bool.false_or, Bool.or_true, Bool.true_or, e, h]
        have t2 : trN m o K' b g s = g s := by
          unfold trN
          simp (disch := first | omega | decide) only [↓neg1, nlit, rI, rL, rI2, rL1, nI_add, pk_mul, sbT, dvT, nmd, ixT, ↓ibT, ltT, ltF, leT, leF, eqT, eqF, nM_ltT, nM_ltF, nM_leT, nM_leF, nM_eqF, nM_eqF', nbT0, nbT1, oI_s, oI_n, natF, natT, nltT, nltF, nleT, nleF, ↓reduceIte, lgc, not_true_eq_false, not_false_eq_true, or_false, false_or, or_true, true_or, and_true, true_and, and_false, false_and, ne_eq, eq_self, or_self, and_self, obs, ↓jn, ↓lt, ↓reduceIte, decide_true, decide_false, Bool.false_eq_true, Bool.and_true, Bool.and_false, Bool.true_and, Bool.false_and, Bool.or_false, Bool.false_or, Bool.or_true, Bool.true_or, e, h]
        rw [t1, t2]
        have hlt : s < 8 + dpn m b := by omega
        exact ⟨hf s hlt, hfg s hlt⟩
    · have hgv := gv_of e
      rw [show GT 25 = 2 from rfl] at hgv
      have htk := tk_of e (by omega)
      rw [show TK 25 = 1 from rfl] at htk
      by_cases h : s = 8 + dpn m b
      · have t1 : trN m o K b f s = f (8 + dpn m b - 1) := by
          unfold trN
          simp (disch := first | omega | decide) only [↓neg1, nlit, rI, rL, rI2, rL1, nI_add, pk_mul, sbT, dvT, nmd, ixT, ↓ibT, ltT, ltF, leT, leF, eqT, eqF, nM_ltT, nM_ltF, nM_leT, nM_leF, nM_eqF, nM_eqF', nbT0, nbT1, oI_s, oI_n, natF, natT, nltT, nltF, nleT, nleF, ↓reduceIte, lgc, not_true_eq_false, not_false_eq_true, or_false, false_or, or_true, true_or, and_true, true_and, and_false, false_and, ne_eq, eq_self, or_self, and_self, obs, ↓jn, ↓lt, ↓reduceIte, decide_true, decide_false, Bool.false_eq_true, Bool.and_true, Bool.and_false, Bool.true_and, Bool.false_and, Bool.or_false, Bool.false_or, Bool.or_true, Bool.true_or, e, h]
        have t2 : trN m o K' b g s = g (8 + dpn m b - 1) := by
          unfold trN
          simp (disch := first | omega | decide) only [↓neg1, nlit, rI, rL, rI2, rL1, nI_add, pk_mul, sbT, dvT, nmd, ixT, ↓ibT, ltT, ltF, leT, leF, eqT, eqF, nM_ltT, nM_ltF, nM_leT, nM_leF, nM_eqF, nM_eqF', nbT0, nbT1, oI_s, oI_n, natF, natT, nltT, nltF, nleT, nleF, ↓reduceIte, lgc, not_true_eq_false, not_false_eq_true, or_false, false_or, or_true, true_or, and_true, true_and, and_false, false_and, ne_eq, eq_self, or_self, and_self, obs, ↓jn, ↓lt, ↓reduceIte, decide_true, decide_false, Bool.false_eq_true, Bool.and_true, Bool.and_false, Bool.true_and, Bool.false_and, Bool.or_false, Bool.false_or, Bool.or_true, Bool.true_or, e, h]
        rw [t1, t2]
        exact ⟨hf _ (by omega), hfg _ (by omega)⟩
      · have t1 : trN m o K b f s = f s := by
          unfold trN
          simp (disch := first | omega | decide) only [↓neg1, nlit, rI, rL, rI2, rL1, nI_add, pk_mul, sbT, dvT, nmd, ixT, ↓ibT, ltT, ltF, leT, leF, eqT, eqF, nM_ltT, nM_ltF, nM_leT, nM_leF, nM_eqF, nM_eqF', nbT0, nbT1, oI_s, oI_n, natF, natT, nltT, nltF, nleT, nleF, ↓reduceIte, lgc, not_true_eq_false, not_false_eq_true, or_false, false_or, or_true, true_or, and_true, true_and, and_false, false_and, ne_eq, eq_self, or_self, and_self, obs, ↓jn, ↓lt, ↓reduceIte, decide_true, decide_false, Bool.false_eq_true, Bool.and_true, Bool.and_false, Bool.true_and, Bool.false_and, Bool.or_false, Bool.false_or, Bool.or_true, Bool.true_or, e, h]
        have t2 : trN m o K' b g s = g s := by
          unfold trN
          simp (disch := first | omega | decide) only [↓neg1, nlit, rI, rL, rI2, rL1, nI_add, pk_mul, sbT, dvT, nmd, ixT, ↓ibT, ltT, ltF, leT, leF, eqT, eqF, nM_ltT, nM_ltF, nM_leT, nM_leF, nM_eqF, nM_eqF', nbT0, nbT1, oI_s, oI_n, natF, natT, nltT, nltF, nleT, nleF, ↓reduceIte, lgc, not_true_eq_false, not_false_eq_true, or_false, false_or, or_true, true_or, and_true, true_and, and_false, false_and, ne_eq, eq_self, or_self, and_self, obs, ↓jn, ↓lt, ↓reduceIte, decide_true, decide_false, Bool.false_eq_true, Bool.and_true, Bool.and_false, Bool.true_and, Bool.false_and, Bool.or_false, Bool.false_or, Bool.or_true, Bool.true_or, e, h]
        rw [t1, t2]
        have hlt : s < 8 + dpn m b := by omega
        exact ⟨hf s hlt, hfg s hlt⟩
    · have hgv := gv_of e
      rw [show GT 26 = 0 from rfl] at hgv
      have htk := tk_of e (by omega)
      rw [show TK 26 = 1 from rfl] at htk
      have t1 : trN m o K b f s = f s := by
        unfold trN
        simp (disch := first | omega | decide) only [↓neg1, nlit, rI, rL, rI2, rL1, nI_add, pk_mul, sbT, dvT, nmd, ixT, ↓ibT, ltT, ltF, leT, leF, eqT, eqF, nM_ltT, nM_ltF, nM_leT, nM_leF, nM_eqF, nM_eqF', nbT0, nbT1, oI_s, oI_n, natF, natT, nltT, nltF, nleT, nleF, ↓reduceIte, lgc, not_true_eq_false, not_false_eq_true, or_false, false_or, or_true, true_or, and_true, true_and, and_false, false_and, ne_eq, eq_self, or_self, and_self, obs, ↓jn, ↓lt, ↓reduceIte, decide_true, decide_false, Bool.false_eq_true, Bool.and_true, Bool.and_false, Bool.true_and, Bool.false_and, Bool.or_false, Bool.false_or, Bool.or_true, Bool.true_or, e]
      have t2 : trN m o K' b g s = g s := by
        unfold trN
        simp (disch := first | omega | decide) only [↓neg1, nlit, rI, rL, rI2, rL1, nI_add, pk_mul, sbT, dvT, nmd, ixT, ↓ibT, ltT, ltF, leT, leF, eqT, eqF, nM_ltT, nM_ltF, nM_leT, nM_leF, nM_eqF, nM_eqF', nbT0, nbT1, oI_s, oI_n, natF, natT, nltT, nltF, nleT, nleF, ↓reduceIte, lgc, not_true_eq_false, not_false_eq_true, or_false, false_or, or_true, true_or, and_true, true_and, and_false, false_and, ne_eq, eq_self, or_self, and_self, obs, ↓jn, ↓lt, ↓reduceIte, decide_true, decide_false, Bool.false_eq_true, Bool.and_true, Bool.and_false, Bool.true_and, Bool.false_and, Bool.or_false, Bool.false_or, Bool.or_true, Bool.true_or, e]
      rw [t1, t2]
      have hlt : s < 8 + dpn m b := by omega
      exact ⟨hf s hlt, hfg s hlt⟩
    · have hgv := gv_of e
      rw [show GT 27 = 0 from rfl] at hgv
      have htk := tk_of e (by omega)
      rw [show TK 27 = 0 from rfl] at htk
      have t1 : trN m o K b f s = f s := by
        unfold trN
        simp (disch := first | omega | decide) only [↓neg1, nlit, rI, rL, rI2, rL1, nI_add, pk_mul, sbT, dvT, nmd, ixT, ↓ibT, ltT, ltF, leT, leF, eqT, eqF, nM_ltT, nM_ltF, nM_leT, nM_leF, nM_eqF, nM_eqF', nbT0, nbT1, oI_s, oI_n, natF, natT, nltT, nltF, nleT, nleF, ↓reduceIte, lgc, not_true_eq_false, not_false_eq_true, or_false, false_or, or_true, true_or, and_true, true_and, and_false, false_and, ne_eq, eq_self, or_self, and_self, obs, ↓jn, ↓lt, ↓reduceIte, decide_true, decide_false, Bool.false_eq_true, Bool.and_true, Bool.and_false, Bool.true_and, Bool.false_and, Bool.or_false, Bool.false_or, Bool.or_true, Bool.true_or, e]
      have t2 : trN m o K' b g s = g s := by
        unfold trN
        simp (disch := first | omega | decide) only [↓neg1, nlit, rI, rL, rI2, rL1, nI_add, pk_mul, sbT, dvT, nmd, ixT, ↓ibT, ltT, ltF, leT, leF, eqT, eqF, nM_ltT, nM_ltF, nM_leT, nM_leF, nM_eqF, nM_eqF', nbT0, nbT1, oI_s, oI_n, natF, natT, nltT, nltF, nleT, nleF, ↓reduceIte, lgc, not_true_eq_false, not_false_eq_true, or_false, false_or, or_true, true_or, and_true, true_and, and_false, false_and, ne_eq, eq_self, or_self, and_self, obs, ↓jn, ↓lt, ↓reduceIte, decide_true, decide_false, Bool.false_eq_true, Bool.and_true, Bool.and_false, Bool.true_and, Bool.false_and, Bool.or_false, Bool.false_or, Bool.or_true, Bool.true_or, e]
      rw [t1, t2]
      have hlt : s < 8 + dpn m b := by omega
      exact ⟨hf s hlt, hfg s hlt⟩
    · have hgv := gv_of e
      rw [show GT 28 = 0 from rfl] at hgv
      have htk := tk_of e (by omega)
      rw [show TK 28 = 1 from rfl] at htk
      have t1 : trN m o K b f s = f s := by
        unfold trN
        simp (disch := first | omega | decide) only [↓neg1, nlit, rI, rL, rI2, rL1, nI_add, pk_mul, sbT, dvT, nmd, ixT, ↓ibT, ltT, ltF, leT, leF, eqT, eqF, nM_ltT, nM_ltF, nM_leT, nM_leF, nM_eqF, nM_eqF', nbT0, nbT1, oI_s, oI_n, natF, natT, nltT, nltF, nleT, nleF, ↓reduceIte, lgc, not_true_eq_false, not_false_eq_true, or_false, false_or, or_true, true_or, and_true, true_and, and_false, false_and, ne_eq, eq_self, or_self, and_self, obs, ↓jn, ↓lt, ↓reduceIte, decide_true, decide_false, Bool.false_eq_true, Bool.and_true, Bool.and_false, Bool.true_and, Bool.false_and, Bool.or_false, Bool.false_or, Bool.or_true, Bool.true_or, e]
      have t2 : trN m o K' b g s = g s := by
        unfold trN
        simp (disch := first | omega | decide) only [↓neg1, nlit, rI, rL, rI2, rL1, nI_add, pk_mul, sbT, dvT, nmd, ixT, ↓ibT, ltT, ltF, leT, leF, eqT, eqF, nM_ltT, nM_ltF, nM_leT, nM_leF, nM_eqF, nM_eqF', nbT0, nbT1, oI_s, oI_n, natF, natT, nltT, nltF, nleT, nleF, ↓reduceIte, lgc, not_true_eq_false, not_false_eq_true, or_false, false_or, or_true, true_or, and_true, true_and, and_false, false_and, ne_eq, eq_self, or_self, and_self, obs, ↓jn, ↓lt, ↓reduceIte, decide_true, decide_false, Bool.false_eq_true, Bool.and_true, Bool.and_false, Bool.true_and, Bool.false_and, Bool.or_false, Bool.false_or, Bool.or_true, Bool.true_or, e]
      rw [t1, t2]
      have hlt : s < 8 + dpn m b := by omega
      exact ⟨hf s hlt, hfg s hlt⟩
    · have hgv := gv_of e
      rw [show GT 29 = 1 from rfl] at hgv
      have htk := tk_of e (by omega)
      rw [show TK 29 = 1 from rfl] at htk
      have t1 : trN m o K b f s = f s := by
        unfold trN
        simp (disch := first | omega | decide) only [↓neg1, nlit, rI, rL, rI2, rL1, nI_add, pk_mul, sbT, dvT, nmd, ixT, ↓ibT, ltT, ltF, leT, leF, eqT, eqF, nM_ltT, nM_ltF, nM_leT, nM_leF, nM_eqF, nM_eqF', nbT0, nbT1, oI_s, oI_n, natF, natT, nltT, nltF, nleT, nleF, ↓reduceIte, lgc, not_true_eq_false, not_false_eq_true, or_false, false_or, or_true, true_or, and_true, true_and, and_false, false_and, ne_eq, eq_self, or_self, and_self, obs, ↓jn, ↓lt, ↓reduceIte, decide_true, decide_false, Bool.false_eq_true, Bool.and_true, Bool.and_false, Bool.true_and, Bool.false_and, Bool.or_false, Bool.false_or, Bool.or_true, Bool.true_or, e]
      have t2 : trN m o K' b g s = g s := by
        unfold trN
        simp (disch := first | omega | decide) only [↓neg1, nlit, rI, rL, rI2, rL1, nI_add, pk_mul, sbT, dvT, nmd, ixT, ↓ibT, ltT, ltF, leT, leF, eqT, eqF, nM_ltT, nM_ltF, nM_leT, nM_leF, nM_eqF, nM_eqF', nbT0, nbT1, oI_s, oI_n, natF, natT, nltT, nltF, nleT, nleF, ↓reduceIte, lgc, not_true_eq_false, not_false_eq_true, or_false, false_or, or_true, true_or, and_true, true_and, and_false, false_and, ne_eq, eq_self, or_self, and_self, obs, ↓jn, ↓lt, ↓reduceIte, decide_true, decide_false, Bool.false_eq_true, Bool.and_true, Bool.and_false, Bool.true_and, Bool.false_and, Bool.or_false, Bool.false_or, Bool.or_true, Bool.true_or, e]
      rw [t1, t2]
      have hlt : s < 8 + dpn m b := by omega
      exact ⟨hf s hlt, hfg s hlt⟩
    · have hgv := gv_of e
      rw [show GT 30 = 1 from rfl] at hgv
      have htk := tk_of e (by omega)
      rw [show TK 30 = 1 from rfl] at htk
      have x2 := (hR.2.2.2.2.2.1 (by omega)).2.1
      by_cases h : xN m b = o ∧ s = 8 + dpn m b - 1
      · have t1 : trN m o K b f s = yN m b := by
          unfold trN
          simp (disch := first | omega | decide) only [↓neg1, nlit, rI, rL, rI2, rL1, nI_add, pk_mul, sbT, dvT, nmd, ixT, ↓ibT, ltT, ltF, leT, leF, eqT, eqF, nM_ltT, nM_ltF, nM_leT, nM_leF, nM_eqF, nM_eqF', nbT0, nbT1, oI_s, oI_n, natF, natT, nltT, nltF, nleT, nleF, ↓reduceIte, lgc, not_true_eq_false, not_false_eq_true, or_false, false_or, or_true, true_or, and_true, true_and, and_false, false_and, ne_eq, eq_self, or_self, and_self, obs, ↓jn, ↓lt, ↓reduceIte, decide_true, decide_false, Bool.false_eq_true, Bool.and_true, Bool.and_false, Bool.true_and, Bool.false_and, Bool.or_false, Bool.false_or, Bool.or_true, Bool.true_or, e, h.1, h.2]
        have t2 : trN m o K' b g s = yN m b := by
          unfold trN
          simp (disch := first | omega | decide) only [↓neg1, nlit, rI, rL, rI2, rL1, nI_add, pk_mul, sbT, dvT, nmd, ixT, ↓ibT, ltT, ltF, leT, leF, eqT, eqF, nM_ltT, nM_ltF, nM_leT, nM_leF, nM_eqF, nM_eqF', nbT0, nbT1, oI_s, oI_n, natF, natT, nltT, nltF, nleT, nleF, ↓reduceIte, lgc, not_true_eq_false, not_false_eq_true, or_false, false_or, or_true, true_or, and_true, true_and, and_false, false_and, ne_eq, eq_self, or_self, and_self, obs, ↓jn, ↓lt, ↓reduceIte, decide_true, decide_false, Bool.false_eq_true, Bool.and_true, Bool.and_false, Bool.true_and, Bool.false_and, Bool.or_false, Bool.false_or, Bool.or_true, Bool.true_or, e, h.1, h.2]
        rw [t1, t2]
        rw [h.1] at x2
        exact ⟨x2, LA_refl hLA x2⟩
      · have t1 : trN m o K b f s = f s := by
          unfold trN
          by_cases hx : xN m b = o
          · have : s ≠ 8 + dpn m b - 1 := fun z => h ⟨hx, z⟩
            simp (disch := first | omega | decide) only [↓neg1, nlit, rI, rL, rI2, rL1, nI_add, pk_mul, sbT, dvT, nmd, ixT, ↓ibT, ltT, ltF, leT, leF, eqT, eqF, nM_ltT, nM_ltF, nM_leT, nM_leF, nM_eqF, nM_eqF', nbT0, nbT1, oI_s, oI_n, natF, natT, nltT, nltF, nleT, nleF, ↓reduceIte, lgc, not_true_eq_false, not_false_eq_true, or_false, false_or, or_true, true_or, and_true, true_and, and_false, false_and, ne_eq, eq_self, or_self, and_self, obs, ↓jn, ↓lt, ↓reduceIte, decide_true, decide_false, Bool.false_eq_true, Bool.and_true, Bool.and_false, Bool.true_and, Bool.false_and, Bool.or_false, Bool.false_or, Bool.or_true, Bool.true_or, e, hx]
          · simp (disch := first | omega | decide) only [↓neg1, nlit, rI, rL, rI2, rL1, nI_add, pk_mul, sbT, dvT, nmd, ixT, ↓ibT, ltT, ltF, leT, leF, eqT, eqF, nM_ltT, nM_ltF, nM_leT, nM_leF, nM_eqF, nM_eqF', nbT0, nbT1, oI_s, oI_n, natF, natT, nltT, nltF, nleT, nleF, ↓reduceIte, lgc, not_true_eq_false, not_false_eq_true, or_false, false_or, or_true, true_or, and_true, true_and, and_false, false_and, ne_eq, eq_self, or_self, and_self, obs, ↓jn, ↓lt, ↓reduceIte, decide_true, decide_false, Bool.false_eq_true, Bool.and_true, Bool.and_false, Bool.true_and, Bool.false_and, Bool.or_false, Bool.false_or, Bool.or_true, Bool.true_or, e, hx]
        have t2 : trN m o K' b g s = g s := by
          unfold trN
          by_cases hx : xN m b = o
          · have : s ≠ 8 + dpn m b - 1 := fun z => h ⟨hx, z⟩
            simp (disch := first | omega | decide) only [↓neg1, nlit, rI, rL, rI2, rL1, nI_add, pk_mul, sbT, dvT, nmd, ixT, ↓ibT, ltT, ltF, leT, leF, eqT, eqF, nM_ltT, nM_ltF, nM_leT, nM_leF, nM_eqF, nM_eqF', nbT0, nbT1, oI_s, oI_n, natF, natT, nltT, nltF, nleT, nleF, ↓reduceIte, lgc, not_true_eq_false, not_false_eq_true, or_false, false_or, or_true, true_or, and_true, true_and, and_false, false_and, ne_eq, eq_self, or_self, and_self, obs, ↓jn, ↓lt, ↓reduceIte, decide_true, decide_false, Bool.false_eq_true, Bool.and_true, Bool.and_false, Bool.true_and, Bool.false_and, Bool.or_false, Bool.false_or, Bool.or_true, Bool.true_or, e, hx]
          · simp (disch := first | omega | decide) only [↓neg1, nlit, rI, rL, rI2, rL1, nI_add, pk_mul, sbT, dvT, nmd, ixT, ↓ibT, ltT, ltF, leT, leF, eqT, eqF, nM_ltT, nM_ltF, nM_leT, nM_leF, nM_eqF, nM_eqF', nbT0, nbT1, oI_s, oI_n, natF, natT, nltT, nltF, nleT, nleF, ↓reduceIte, lgc, not_true_eq_false, not_false_eq_true, or_false, false_or, or_true, true_or, and_true, true_and, and_false, false_and, ne_eq, eq_self, or_self, and_self, obs, ↓jn, ↓lt, ↓reduceIte, decide_true, decide_false, Bool.false_eq_true, Bool.and_true, Bool.and_false, Bool.true_and, Bool.false_and, Bool.or_false, Bool.false_or, Bool.or_true, Bool.true_or, e, hx]
        rw [t1, t2]
        have hlt : s < 8 + dpn m b := by omega
        exact ⟨hf s hlt, hfg s hlt⟩
  refine ⟨fun s hs => (hN s hs).1, fun s hs => (hN s hs).2, fun s hs => ?_, fun s hs => ?_⟩
  · unfold trL
    by_cases h : opn m b = 29 ∧ xN m b = o ∧ s = 8 + dpn m b - 1
    · rw [if_pos h]
      have x2 := (hR.2.2.2.2.2.1 (Or.inl h.1)).2.1
      rw [h.2.1] at x2
      have htk := tk_of h.1 (by omega)
      rw [show TK 29 = 1 from rfl] at htk
      exact (LA_M hLA (hf _ (by omega)) x2).1
    · rw [if_neg h]
      exact (hN s hs).1
  · unfold trL
    by_cases h : opn m b = 29 ∧ xN m b = o ∧ s = 8 + dpn m b - 1
    · rw [if_pos h, if_pos h]
      have x2 := (hR.2.2.2.2.2.1 (Or.inl h.1)).2.1
      rw [h.2.1] at x2
      have htk := tk_of h.1 (by omega)
      rw [show TK 29 = 1 from rfl] at htk
      exact LA_Mmono hLA (hf _ (by omega)) x2 (hg _ (by omega)) (hfg _ (by omega))
    · rw [if_neg h, if_neg h]
      exact (hN s hs).2
