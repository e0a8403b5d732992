/-! WAY: a step from a situation; the class's search -/
def mtI (p : Bool) (sh : Nat → Int64 → Bool) (a : Nat) (s : Int64) (fr : Option Nat) (X : WQ) : WQ := if p = true then meet sh a s fr X else X
theorem mtI_t {p : Bool} {sh : Nat → Int64 → Bool} {a : Nat} {s : Int64} {fr : Option Nat} {X : WQ} (h : p = true) : mtI p sh a s fr X = meet sh a s fr X := if_pos h
theorem mtI_f {p : Bool} {sh : Nat → Int64 → Bool} {a : Nat} {s : Int64} {fr : Option Nat} {X : WQ} (h : ¬ p = true) : mtI p sh a s fr X = X := if_neg h
def isL (m : cS) (b : Nat) : Bool := decide (opn m b = 27 ∨ opn m b = 28 ∨ opn m b = 29)
def isN (m : cS) (b : Nat) : Bool := decide (opn m b ≠ 21 ∧ opn m b ≠ 27)
def lbT (m : cS) (b : Nat) : Nat := ix (m.1 216 b)
def stA (m : cS) (o M : Nat) (K : Nat → Nat) (sh : Nat → Int64 → Bool) (j a : Nat) (s : Int64) (X : WQ) : WQ :=
  mtI (isL m (40 * M + a) && decide (a < lbT m (40 * M + a))) sh (lbT m (40 * M + a)) (lbS m o (40 * M + a) (bhS m o K (40 * M + a) s)) (some j) (mtI (isN m (40 * M + a)) sh (a + 1) (bhS m o K (40 * M + a) s) (some j) (mtI (isL m (40 * M + a) && decide (lbT m (40 * M + a) ≤ a)) sh (lbT m (40 * M + a)) (lbS m o (40 * M + a) (bhS m o K (40 * M + a) s)) (some j) X))
def stQ (m : cS) (o M : Nat) (K : Nat → Nat) (sh : Nat → Int64 → Bool) (j : Nat) (X : WQ) : WQ := stA m o M K sh j (X.2.1 j).1 (X.2.1 j).2.1 X
/-- a situation that may be -/
def SW (m : cS) (o M a : Nat) (s : Int64) : Prop := a < acn m M ∧ RCH m M a ∧ WFs (eln m o) (lcn m M) (dpn m (40 * M + a)) s
def WE (m : cS) (o M : Nat) (X : WQ) : Prop := X.1 ≤ 400 ∧ (X.2.2.2 = true → X.2.2.1 = none) ∧ (∀ p, X.2.2.1 = some p → p < X.1) ∧ ∀ j, j < X.1 → SW m o M (X.2.1 j).1 (X.2.1 j).2.1 ∧ ∀ f, (X.2.1 j).2.2 = some f → f < j
theorem WE_meet {m : cS} {o M a : Nat} {s : Int64} {fr : Option Nat} {X : WQ} {sh : Nat → Int64 → Bool} (h : WE m o M X) (hs : SW m o M a s) (hf : ∀ f, fr = some f → f < X.1) : WE m o M (meet sh a s fr X) := by
  obtain ⟨h1, h2, h3, h4⟩ := id h
  rcases meet_cs (sh := sh) (a := a) (s := s) (fr := fr) (X := X) with e | ⟨-, e⟩ | ⟨-, e4, e⟩
  · rw [e]
    exact h
  · rw [e]
    exact ⟨h1, fun _ => rfl, fun p hp => (by cases hp), h4⟩
  · rw [e]
    refine ⟨by show X.1 + 1 ≤ 400; omega, fun z => (by cases z), fun p hp => ?_, fun j hj => ?_⟩
    · have hp : (if sh a s = true then some X.1 else none) = some p := hp
      show p < X.1 + 1
      by_cases z : sh a s = true
      · rw [if_pos z] at hp
        have := Option.some.inj hp
        omega
      · rw [if_neg z] at hp
        cases hp
    · have hj : j < X.1 + 1 := hj
      show SW m o M ((fun j => if j = X.1 then (a, s, fr) else X.2.1 j) j).1 ((fun j => if j = X.1 then (a, s, fr) else X.2.1 j) j).2.1 ∧ ∀ f, ((fun j => if j = X.1 then (a, s, fr) else X.2.1 j) j).2.2 = some f → f < j
      by_cases z : j = X.1
      · dsimp only
        rw [if_pos z]
        exact ⟨hs, fun f hff => by rw [z]; exact hf f hff⟩
      · dsimp only
        rw [if_neg z]
        exact h4 j (by omega)
theorem WE_mtI {m : cS} {o M a : Nat} {s : Int64} {fr : Option Nat} {X : WQ} {sh : Nat → Int64 → Bool} {p : Bool} (h : WE m o M X) (hs : p = true → SW m o M a s) (hf : ∀ f, fr = some f → f < X.1) : WE m o M (mtI p sh a s fr X) := by
  unfold mtI
  by_cases e : p = true
  · rw [if_pos e]
    exact WE_meet h (hs e) hf
  · rw [if_neg e]
    exact h
theorem mtI_keep {a : Nat} {s : Int64} {fr : Option Nat} {X : WQ} {sh : Nat → Int64 → Bool} {p : Bool} : X.1 ≤ (mtI p sh a s fr X).1 ∧ ∀ j, j < X.1 → (mtI p sh a s fr X).2.1 j = X.2.1 j := by
  unfold mtI
  by_cases e : p = true
  · rw [if_pos e]
    exact meet_keep
  · rw [if_neg e]
    exact ⟨Nat.le_refl _, fun _ _ => rfl⟩
/-- the situations behind a situation -/
theorem SW_nx {c m : cS} {o M a : Nat} {K : Nat → Nat} {s : Int64} (hX : FX c m o M K) (h : SW m o M a s) (hg : isN m (40 * M + a) = true) : SW m o M (a + 1) (bhS m o K (40 * M + a) s) := by
  obtain ⟨h1, h2, h3⟩ := h
  have hg := of_decide_eq_true hg
  have hac := MTS_ac hX.2.2.1 hX.2.2.2.1 h1
  obtain ⟨n1, n2, n3⟩ := RCH_nx hX.2.2.1 hX.2.2.2.1 h1 h2 hg
  have hb := bhS_ok (bt := 0) hX.1 hX.2.1 hX.2.2.2.2.1 hac.1 hac.2.2.2.2.2.2.1 (FX_L hX).2.1 hg.1 h2 hX.2.2.2.2.2 h3
  refine ⟨n1, n2, ?_⟩
  rw [n3]
  exact hb.1
theorem SW_lb {c m : cS} {o M a : Nat} {K : Nat → Nat} {s : Int64} (hX : FX c m o M K) (h : SW m o M a s) (hg : isL m (40 * M + a) = true) : m.1 216 (40 * M + a) = nI (lbT m (40 * M + a)) ∧ SW m o M (lbT m (40 * M + a)) (lbS m o (40 * M + a) (bhS m o K (40 * M + a) s)) ∧ WFs (eln m o) (lcn m M) (dpb m (40 * M + a)) (bhS m o K (40 * M + a) s) := by
  obtain ⟨h1, h2, h3⟩ := h
  have hg := of_decide_eq_true hg
  have hac := MTS_ac hX.2.2.1 hX.2.2.2.1 h1
  have hlab := hac.2.2.2.2.2.2.1.2.2.2.2.2.2
  obtain ⟨t', l1, l2, -⟩ := hlab.1 hg
  have hn40 := (FX_L hX).2.2.1
  have ht : lbT m (40 * M + a) = t' := by
    unfold lbT
    rw [l2, ix_n (by omega)]
  obtain ⟨lb1, lb2⟩ := RCH_lb hX.2.2.1 hX.2.2.2.1 h1 h2 l2 l1
  have h21 : opn m (40 * M + a) ≠ 21 := by omega
  have hb := bhS_ok (bt := 0) hX.1 hX.2.1 hX.2.2.2.2.1 hac.1 hac.2.2.2.2.2.2.1 (FX_L hX).2.1 h21 h2 hX.2.2.2.2.2 h3
  obtain ⟨g1, g2⟩ := lbS_ok (bt := 0) hX h1 h2 h21 hb.1 h3 rfl hb.2
  rw [ht]
  refine ⟨l2, ⟨l1, lb1, ?_⟩, hb.1⟩
  rw [lb2]
  exact g1
theorem WE_st {c m : cS} {o M j : Nat} {K : Nat → Nat} {X : WQ} {sh : Nat → Int64 → Bool} (hX : FX c m o M K) (h : WE m o M X) (hj : j < X.1) : WE m o M (stQ m o M K sh j X) := by
  have hs := (h.2.2.2 j hj).1
  unfold stQ stA
  have hL := fun g => (SW_lb hX hs g).2.1
  have hN := fun g => SW_nx hX hs g
  refine WE_mtI (WE_mtI (WE_mtI h (fun z => hL (by rw [Bool.and_eq_true] at z; exact z.1)) (fun f hf => by cases hf; exact hj)) hN (fun f hf => by cases hf; exact Nat.lt_of_lt_of_le hj mtI_keep.1)) (fun z => hL (by rw [Bool.and_eq_true] at z; exact z.1)) (fun f hf => by cases hf; exact Nat.lt_of_lt_of_le (Nat.lt_of_lt_of_le hj mtI_keep.1) mtI_keep.1)
def shw (m : cS) (o M i k : Nat) (K : Nat → Nat) (a : Nat) (s : Int64) : Bool := decide (a = i ∧ mBb m o (nbl s (wts m (40 * M + i) k)) (K (wtp m M (40 * M + i) k)) = false)
theorem e213 {n o M i k j : Nat} {c m u : cS} {X : WQ} {K : Nat → Nat} (hn : 1000 ≤ n) (h : FC c m u o) (hK : ∀ p, TM m c p o = K p) (hM : isMt m M) (hi : i < acn m M) (hk : k < wnt m (40 * M + i)) (h13 : c.1 150 13 = nI (M * 160 + i * 4 + k)) (hQ : QC c X) (hW : WE m o M X) (hj : j < X.1) : wp (d_213 n (nI j) (nI (fa c M)) c) (fun d => QC d (stQ m o M K (shw m o M i k K) j X) ∧ sx qYc c d) := by
  have hX0 := FC_X h hM
  have hKf : (fun p => TM m c p o) = K := funext hK
  rw [hKf] at hX0
  have hs := (hW.2.2.2 j hj).1
  have hL := fun g => SW_lb hX0 hs g
  have hN := fun g => SW_nx hX0 hs g
  have hX4 := hW.1
  obtain ⟨-, y1, y2, -, -⟩ := hQ.2.2.2.1 j hj
  unfold stQ
  generalize hea : (X.2.1 j).1 = a at *
  generalize hes : (X.2.1 j).2.1 = s at *
  obtain ⟨s1, s2, s3⟩ := id hs
  have hac := MTS_ac h.1.2.2 hM s1
  have hmt := (h.1.2.2.2.1 M hM).1
  have hF1 := hmt.2.2.2.2.2.2.2.2
  have hn40 := (FX_L hX0).2.2.1
  have h124 : c.1 124 (fa c M + a) = m.1 216 (40 * M + a) := hac.2.2.2.2.1
  have h202 := e202 (n := n) hn h hM s1 s2 s3 (a := fa c M + a) rfl
  rw [hKf] at h202
  have hlab := hac.2.2.2.2.2.2.1.2.2.2.2.2.2
  unfold d_213
  refine wpt (by simp (disch := first | omega | decide) only [↓neg1, nlit, rI, rL, rI2, rL1, nI_add, pk_mul, sbT, dvT, nmd, ixT, ↓ibT, ltT, ltF, leT, leF, eqT, eqF, nM_ltT, nM_ltF, nM_leT, nM_leF, nM_eqF, nM_eqF', nbT0, nbT1, oI_s, oI_n, natF, natT, nltT, nltF, nleT, nleF, ↓reduceIte, lgc, not_true_eq_false, not_false_eq_true, or_false, false_or, or_true, true_or, and_true, true_and, and_false, false_and, ne_eq, eq_self, or_self, and_self]) ?_
  rw [ix_n (by omega), y1, y2]
  refine wpl (wpl ?_)
  rw [nI_add]
  refine wpt (by simp (disch := first | omega | decide) only [↓neg1, nlit, rI, rL, rI2, rL1, nI_add, pk_mul, sbT, dvT, nmd, ixT, ↓ibT, ltT, ltF, leT, leF, eqT, eqF, nM_ltT, nM_ltF, nM_leT, nM_leF, nM_eqF, nM_eqF', nbT0, nbT1, oI_s, oI_n, natF, natT, nltT, nltF, nleT, nleF, ↓reduceIte, lgc, not_true_eq_false, not_false_eq_true, or_false, false_or, or_true, true_or, and_true, true_and, and_false, false_and, ne_eq, eq_self, or_self, and_self]) ?_
  rw [ix_n (by omega), h124]
  refine wpl (wpt (by simp (disch := first | omega | decide) only [↓neg1, nlit, rI, rL, rI2, rL1, nI_add, pk_mul, sbT, dvT, nmd, ixT, ↓ibT, ltT, ltF, leT, leF, eqT, eqF, nM_ltT, nM_ltF, nM_leT, nM_leF, nM_eqF, nM_eqF', nbT0, nbT1, oI_s, oI_n, natF, natT, nltT, nltF, nleT, nleF, ↓reduceIte, lgc, not_true_eq_false, not_false_eq_true, or_false, false_or, or_true, true_or, and_true, true_and, and_false, false_and, ne_eq, eq_self, or_self, and_self]) (wpe h202 ?_))
  -- what is met
  have one : ∀ (y : cS) (Y : WQ) (a' : Nat) (s' : Int64), QC y Y → sx qYc c y → SW m o M a' s' → wp (d_214 n (nI a') s' (nI j) y) (fun d => QC d (meet (shw m o M i k K) a' s' (some j) Y) ∧ sx qYc c d) := by
    intro y Y a' s' g1 g2 g3
    obtain ⟨f1, f2⟩ := FC_Yc h g2
    have := e214 (k := k) (fr := some j) (sh := shw m o M i k K) hn f1 hM hi hk ((g2.1 150 13 rfl).trans h13) g1 (a := a') (s := s') (by have := g3.1; omega) (fun z => by rw [← z]; exact g3.2) (by unfold shw; rw [f2, hK])
    exact wp_mono this (fun d hd => ⟨hd.1, sx_trans g2 hd.2⟩)
  have h204 : ∀ y, sx qYc c y → isL m (40 * M + a) = true → d_204 n (nI (fa c M + a)) (bhS m o K (40 * M + a) s) y = some (lbS m o (40 * M + a) (bhS m o K (40 * M + a) s)) := by
    intro y g2 g
    exact e204 (FC_Yc h g2).1 hM s1 s2 (hL g).2.2 (by rw [FC_fa g2 nC_Yc])
  unfold stA
  refine wpjP (fun y : cS => QC y (mtI (isL m (40 * M + a) && decide (lbT m (40 * M + a) ≤ a)) (shw m o M i k K) (lbT m (40 * M + a)) (lbS m o (40 * M + a) (bhS m o K (40 * M + a) s)) (some j) X) ∧ sx qYc c y) ?_ ?_
  · generalize (mtI (isL m (40 * M + a) && decide (lbT m (40 * M + a) ≤ a)) (shw m o M i k K) (lbT m (40 * M + a)) (lbS m o (40 * M + a) (bhS m o K (40 * M + a) s)) (some j) X) = X1
    rintro y ⟨g1, g2⟩
    refine wpe (e167 (FC_Yc h g2).1.1.2.2 hM s1 (by rw [FC_fa g2 nC_Yc])) ?_
    refine wpjP (fun y : cS => QC y (mtI (isN m (40 * M + a)) (shw m o M i k K) (a + 1) (bhS m o K (40 * M + a) s) (some j) X1) ∧ sx qYc c y) ?_ ?_
    · generalize (mtI (isN m (40 * M + a)) (shw m o M i k K) (a + 1) (bhS m o K (40 * M + a) s) (some j) X1) = X2
      rintro z ⟨g3, g4⟩
      refine wpj ?_
      by_cases hl : isL m (40 * M + a) = true
      · obtain ⟨l1, l2, l3⟩ := hL hl
        rw [l1]
        have lt40 := l2.1
        by_cases e : lbT m (40 * M + a) ≤ a
        · rw [mtI_f (by rw [hl, Bool.true_and, decide_eq_true_iff]; omega)]
          exact wpt (by simp (disch := first | omega | decide) only [↓neg1, nlit, rI, rL, rI2, rL1, nI_add, pk_mul, sbT, dvT, nmd, ixT, ↓ibT, ltT, ltF, leT, leF, eqT, eqF, nM_ltT, nM_ltF, nM_leT, nM_leF, nM_eqF, nM_eqF', nbT0, nbT1, oI_s, oI_n, natF, natT, nltT, nltF, nleT, nleF, ↓reduceIte, lgc, not_true_eq_false, not_false_eq_true, or_false, false_or, or_true, true_or, and_true, true_and, and_false, false_and, ne_eq, eq_self, or_self, and_self]) ⟨g3, g4⟩
        · rw [mtI_t (by rw [hl, Bool.true_and, decide_eq_true_iff]; omega)]
          refine wpf (by simp (disch := first | omega | decide) only [↓neg1, nlit, rI, rL, rI2, rL1, nI_add, pk_mul, sbT, dvT, nmd, ixT, ↓ibT, ltT, ltF, leT, leF, eqT, eqF, nM_ltT, nM_ltF, nM_leT, nM_leF, nM_eqF, nM_eqF', nbT0, nbT1, oI_s, oI_n, natF, natT, nltT, nltF, nleT, nleF, ↓reduceIte, lgc, not_true_eq_false, not_false_eq_true, or_false, false_or, or_true, true_or, and_true, true_and, and_false, false_and, ne_eq, eq_self, or_self, and_self]) (wpe (h204 z g4 hl) (wpc (one z X2 _ _ g3 g4 l2) (fun d hd => hd)))
      · have hl' := fun z => hl (decide_eq_true z)
        have l2 := hlab.2 ⟨fun z => hl' (Or.inl z), fun z => hl' (Or.inr (Or.inl z)), fun z => hl' (Or.inr (Or.inr z))⟩
        rw [l2]
        rw [mtI_f (by rw [Bool.and_eq_true]; exact fun z => hl z.1)]
        exact wpt (by simp (disch := first | omega | decide) only [↓neg1, nlit, rI, rL, rI2, rL1, nI_add, pk_mul, sbT, dvT, nmd, ixT, ↓ibT, ltT, ltF, leT, leF, eqT, eqF, nM_ltT, nM_ltF, nM_leT, nM_leF, nM_eqF, nM_eqF', nbT0, nbT1, oI_s, oI_n, natF, natT, nltT, nltF, nleT, nleF, ↓reduceIte, lgc, not_true_eq_false, not_false_eq_true, or_false, false_or, or_true, true_or, and_true, true_and, and_false, false_and, ne_eq, eq_self, or_self, and_self]) ⟨g3, g4⟩
    · intro k' hk'
      by_cases hg : isN m (40 * M + a) = true
      · rw [if_pos (of_decide_eq_true hg)]
        refine wpf (by decide) ?_
        rw [nI_1]
        refine wpc (one y X1 _ _ g1 g2 (hN hg)) (fun d hd => hk' d ?_)
        rw [mtI_t hg]
        exact hd
      · rw [if_neg (fun z => hg (decide_eq_true z))]
        refine wpt rfl (hk' y ?_)
        rw [mtI_f hg]
        exact ⟨g1, g2⟩
  · intro k' hk'
    by_cases hl : isL m (40 * M + a) = true
    · obtain ⟨l1, l2, l3⟩ := hL hl
      rw [l1]
      have lt40 := l2.1
      refine wpf (by simp (disch := first | omega | decide) only [↓neg1, nlit, rI, rL, rI2, rL1, nI_add, pk_mul, sbT, dvT, nmd, ixT, ↓ibT, ltT, ltF, leT, leF, eqT, eqF, nM_ltT, nM_ltF, nM_leT, nM_leF, nM_eqF, nM_eqF', nbT0, nbT1, oI_s, oI_n, natF, natT, nltT, nltF, nleT, nleF, ↓reduceIte, lgc, not_true_eq_false, not_false_eq_true, or_false, false_or, or_true, true_or, and_true, true_and, and_false, false_and, ne_eq, eq_self, or_self, and_self]) ?_
      by_cases e : lbT m (40 * M + a) ≤ a
      · refine wpf (by simp (disch := first | omega | decide) only [↓neg1, nlit, rI, rL, rI2, rL1, nI_add, pk_mul, sbT, dvT, nmd, ixT, ↓ibT, ltT, ltF, leT, leF, eqT, eqF, nM_ltT, nM_ltF, nM_leT, nM_leF, nM_eqF, nM_eqF', nbT0, nbT1, oI_s, oI_n, natF, natT, nltT, nltF, nleT, nleF, ↓reduceIte, lgc, not_true_eq_false, not_false_eq_true, or_false, false_or, or_true, true_or, and_true, true_and, and_false, false_and, ne_eq, eq_self, or_self, and_self]) (wpe (h204 c sx_rfl hl) (wpc (one c X _ _ hQ sx_rfl l2) (fun d hd => hk' d ?_)))
        rw [mtI_t (by rw [hl, Bool.true_and, decide_eq_true_iff]; omega)]
        exact hd
      · refine wpt (by simp (disch := first | omega | decide) only [↓neg1, nlit, rI, rL, rI2, rL1, nI_add, pk_mul, sbT, dvT, nmd, ixT, ↓ibT, ltT, ltF, leT, leF, eqT, eqF, nM_ltT, nM_ltF, nM_leT, nM_leF, nM_eqF, nM_eqF', nbT0, nbT1, oI_s, oI_n, natF, natT, nltT, nltF, nleT, nleF, ↓reduceIte, lgc, not_true_eq_false, not_false_eq_true, or_false, false_or, or_true, true_or, and_true, true_and, and_false, false_and, ne_eq, eq_self, or_self, and_self]) (hk' c ?_)
        rw [mtI_f (by rw [hl, Bool.true_and, decide_eq_true_iff]; omega)]
        exact ⟨hQ, sx_rfl⟩
    · have hl' := fun z => hl (decide_eq_true z)
      have l2 := hlab.2 ⟨fun z => hl' (Or.inl z), fun z => hl' (Or.inr (Or.inl z)), fun z => hl' (Or.inr (Or.inr z))⟩
      rw [l2]
      refine wpt (by simp (disch := first | omega | decide) only [↓neg1, nlit, rI, rL, rI2, rL1, nI_add, pk_mul, sbT, dvT, nmd, ixT, ↓ibT, ltT, ltF, leT, leF, eqT, eqF, nM_ltT, nM_ltF, nM_leT, nM_leF, nM_eqF, nM_eqF', nbT0, nbT1, oI_s, oI_n, natF, natT, nltT, nltF, nleT, nleF, ↓reduceIte, lgc, not_true_eq_false, not_false_eq_true, or_false, false_or, or_true, true_or, and_true, true_and, and_false, false_and, ne_eq, eq_self, or_self, and_self]) (hk' c ?_)
      rw [mtI_f (by rw [Bool.and_eq_true]; exact fun z => hl z.1)]
      exact ⟨hQ, sx_rfl⟩
/-- the queue behind k steps -/
def itQ (f : Nat → WQ → WQ) (X : WQ) : Nat → WQ
  | 0 => X
  | k + 1 => f k (itQ f X k)
def cnQ (k : Nat) (X : WQ) : Prop := k < X.1 ∧ X.2.2.1 = none ∧ X.2.2.2 = false
theorem WE_it {c m : cS} {o M : Nat} {K : Nat → Nat} {X : WQ} {sh : Nat → Int64 → Bool} (hX : FX c m o M K) (h : WE m o M X) : ∀ k, (∀ j, j < k → cnQ j (itQ (stQ m o M K sh) X j)) → WE m o M (itQ (stQ m o M K sh) X k)
  | 0, _ => h
  | k + 1, hc => WE_st hX (WE_it hX h k (fun j hj => hc j (by omega))) (hc k (by omega)).1
theorem it_one {f : Nat → WQ → WQ} {X : WQ} {k k' : Nat} (h1 : ∀ j, j < k → cnQ j (itQ f X j)) (h2 : ¬ cnQ k (itQ f X k)) (h1' : ∀ j, j < k' → cnQ j (itQ f X j)) (h2' : ¬ cnQ k' (itQ f X k')) : k = k' := by
  by_cases e1 : k < k'
  · exact absurd (h1' k e1) h2
  · by_cases e2 : k' < k
    · exact absurd (h1 k' e2) h2'
    · omega
/-- the way up from a situation -/
def upF (E : Nat → Nat × Int64 × Option Nat) (p : Nat) : Nat → Option Nat
  | 0 => some p
  | k + 1 => (upF E p k).bind (fun q => (E q).2.2)
theorem upF_dn {E : Nat → Nat × Int64 × Option Nat} {p L : Nat} (hp : p < L) (hE : ∀ j, j < L → ∀ f, (E j).2.2 = some f → f < j) : ∀ k q, upF E p k = some q → q + k ≤ p
  | 0, q, h => by
    cases h
    omega
  | k + 1, q, h => by
    unfold upF at h
    cases hu : upF E p k with
    | none =>
      rw [hu] at h
      cases h
    | some r =>
      rw [hu] at h
      have h : (E r).2.2 = some q := h
      have h1 := upF_dn hp hE k r hu
      have h2 := hE r (by omega) q h
      omega
theorem upF_ex {E : Nat → Nat × Int64 × Option Nat} {p L : Nat} (hp : p < L) (hL : L ≤ 400) (hE : ∀ j, j < L → ∀ f, (E j).2.2 = some f → f < j) : ∃ N, 1 ≤ N ∧ N ≤ 400 ∧ upF E p N = none ∧ ∀ k, k < N → ∃ q, upF E p k = some q ∧ q < L := by
  cases hf : ff (fun k => decide (upF E p k = none)) 401 with
  | none =>
    have := ff_none hf 400 (by omega)
    have := of_decide_eq_false this
    cases hu : upF E p 400 with
    | none => exact absurd hu this
    | some q =>
      have := upF_dn hp hE 400 q hu
      omega
  | some N =>
    obtain ⟨h1, h2, h3⟩ := ff_some hf
    have h2 := of_decide_eq_true h2
    refine ⟨N, ?_, by omega, h2, fun k hk => ?_⟩
    · by_cases e : N = 0
      · rw [e] at h2
        cases h2
      · omega
    · have := of_decide_eq_false (h3 k hk)
      cases hu : upF E p k with
      | none => exact absurd hu this
      | some q =>
        have := upF_dn hp hE k q hu
        exact ⟨q, rfl, by omega⟩
theorem nI_m1 {a : Nat} (h : 1 ≤ a) : nI a + (-1) = nI (a - 1) := by
  have h1 : nI a = nI (a - 1) + 1 := by
    rw [nI_1]
    congr 1
    omega
  rw [h1, Int32.add_assoc, show (1 : Int32) + (-1) = 0 by decide, Int32.add_zero]
def qSt (a i : Nat) : Bool := decide ((a = 150 ∧ i = 16) ∨ a = 158)
theorem e216 {n p N : Nat} {c : cS} {X : WQ} (hn : 1000 ≤ n) (hQ : QC c X) (hp : X.2.2.1 = some p) (hf : X.2.2.2 = false) (hN1 : 1 ≤ N) (hN : N ≤ 400) (hno : upF X.2.1 p N = none) (hyes : ∀ k, k < N → ∃ q, upF X.2.1 p k = some q ∧ q < X.1) : wp (d_216 n c) (fun r => r.1 = nI N ∧ sx qSt c r.2 ∧ r.2.1 150 16 = nI N ∧ ∀ k q, k < N → upF X.2.1 p k = some q → r.2.1 158 (N - 1 - k) = nI (X.2.1 q).1) := by
  obtain ⟨⟨q1, q0⟩, q2, q3, q4, q5⟩ := hQ
  have h14 : c.1 150 14 = oI (some p) := by
    rw [q3, hf, if_neg (by decide), hp]
  unfold d_216
  refine wpl ?_
  have s0 : sx qSt c (pI c 150 16 0) := sx_pI sx_rfl rfl
  rw [show (pI c 150 16 0).1 150 14 = oI (some p) by rw [rI, if_neg (by omega)]; exact h14]
  refine wpl ?_
  have hu0 : upF X.2.1 p 0 = some p := rfl
  refine wpc (K' := fun w : cS => sx qSt c w ∧ w.1 150 16 = nI N) (whl_cnt (fun t (st : Int32 × Int32 × cS) => st.1 = oI (upF X.2.1 p t) ∧ st.2.1 = nI t ∧ sx qSt c st.2.2 ∧ st.2.2.1 150 16 = nI t) N ?_ ?_ (by omega) ⟨rfl, rfl, s0, ?_⟩) ?_
  · rintro t ⟨v, t0, w⟩ ht ⟨g1, g2, g3, g4⟩
    dsimp only at g1 g2 g3 g4
    subst g2
    obtain ⟨q, u1, u2⟩ := hyes t ht
    rw [u1] at g1
    have g1 : v = nI q := g1
    subst g1
    dsimp only
    refine wpf (by simp (disch := first | omega | decide) only [↓neg1, nlit, rI, rL, rI2, rL1, nI_add, pk_mul, sbT, dvT, nmd, ixT, ↓ibT, ltT, ltF, leT, leF, eqT, eqF, nM_ltT, nM_ltF, nM_leT, nM_leF, nM_eqF, nM_eqF', nbT0, nbT1, oI_s, oI_n, natF, natT, nltT, nltF, nleT, nleF, ↓reduceIte, lgc, not_true_eq_false, not_false_eq_true, or_false, false_or, or_true, true_or, and_true, true_and, and_false, false_and, ne_eq, eq_self, or_self, and_self]) (wpf (by simp (disch := first | omega | decide) only [↓neg1, nlit, rI, rL, rI2, rL1, nI_add, pk_mul, sbT, dvT, nmd, ixT, ↓ibT, ltT, ltF, leT, leF, eqT, eqF, nM_ltT, nM_ltF, nM_leT, nM_leF, nM_eqF, nM_eqF', nbT0, nbT1, oI_s, oI_n, natF, natT, nltT, nltF, nleT, nleF, ↓reduceIte, lgc, not_true_eq_false, not_false_eq_true, or_false, false_or, or_true, true_or, and_true, true_and, and_false, false_and, ne_eq, eq_self, or_self, and_self]) (wpl (wpt (by simp (disch := first | omega | decide) only [↓neg1, nlit, rI, rL, rI2, rL1, nI_add, pk_mul, sbT, dvT, nmd, ixT, ↓ibT, ltT, ltF, leT, leF, eqT, eqF, nM_ltT, nM_ltF, nM_leT, nM_leF, nM_eqF, nM_eqF', nbT0, nbT1, oI_s, oI_n, natF, natT, nltT, nltF, nleT, nleF, ↓reduceIte, lgc, not_true_eq_false, not_false_eq_true, or_false, false_or, or_true, true_or, and_true, true_and, and_false, false_and, ne_eq, eq_self, or_self, and_self]) (wpl (wpl ?_)))))
    have hs := sx_pI (v := w.1 150 16 + 1) g3 (show qSt 150 16 = true from rfl)
    refine ⟨?_, nI_1 _, hs, ?_⟩
    · dsimp only
      rw [ix_n (by omega), hs.1 155 q rfl, (q4 q u2).2.2.2.1]
      show _ = oI ((upF X.2.1 p t).bind (fun q => (X.2.1 q).2.2))
      rw [u1]
      rfl
    · dsimp only
      rw [rI, if_pos ⟨rfl, rfl⟩, g4]
      exact nI_1 _
  · rintro ⟨v, t0, w⟩ ⟨g1, g2, g3, g4⟩
    dsimp only at g1 g2 g3 g4
    subst g2
    rw [hno] at g1
    have g1 : v = nM := g1
    subst g1
    dsimp only
    by_cases e : N = 400
    · exact wpt (by rw [e]; decide) ⟨g3, g4⟩
    · exact wpf (by simp (disch := first | omega | decide) only [↓neg1, nlit, rI, rL, rI2, rL1, nI_add, pk_mul, sbT, dvT, nmd, ixT, ↓ibT, ltT, ltF, leT, leF, eqT, eqF, nM_ltT, nM_ltF, nM_leT, nM_leF, nM_eqF, nM_eqF', nbT0, nbT1, oI_s, oI_n, natF, natT, nltT, nltF, nleT, nleF, ↓reduceIte, lgc, not_true_eq_false, not_false_eq_true, or_false, false_or, or_true, true_or, and_true, true_and, and_false, false_and, ne_eq, eq_self, or_self, and_self]) (wpt (by decide) ⟨g3, g4⟩)
  · rw [rI, if_pos ⟨rfl, rfl⟩]
    rfl
  · rintro w ⟨w1, w2⟩
    rw [w1.1 150 14 rfl, h14, w2]
    refine wpl (wpl ?_)
    rw [show nI N - 1 = nI (N - 1) from pk_sub (b := 1) hN1]
    refine wpc (K' := fun x : cS => sx qSt c x ∧ x.1 150 16 = nI N ∧ ∀ k q, k < N → upF X.2.1 p k = some q → x.1 158 (N - 1 - k) = nI (X.2.1 q).1) (whl_cnt (fun t (st : Int32 × Int32 × cS) => st.1 = oI (upF X.2.1 p t) ∧ st.2.1 = (if t < N then nI (N - 1 - t) else nM) ∧ sx qSt c st.2.2 ∧ st.2.2.1 150 16 = nI N ∧ ∀ k q, k < t → upF X.2.1 p k = some q → st.2.2.1 158 (N - 1 - k) = nI (X.2.1 q).1) N ?_ ?_ (by omega) ⟨rfl, ?_, w1, w2, fun k q hk => by omega⟩) ?_
    · rintro t ⟨v, t0, w⟩ ht ⟨g1, g2, g3, g4, g5⟩
      dsimp only at g1 g2 g3 g4 g5
      rw [if_pos ht] at g2
      subst g2
      obtain ⟨q, u1, u2⟩ := hyes t ht
      rw [u1] at g1
      have g1 : v = nI q := g1
      subst g1
      dsimp only
      refine wpf (by simp (disch := first | omega | decide) only [↓neg1, nlit, rI, rL, rI2, rL1, nI_add, pk_mul, sbT, dvT, nmd, ixT, ↓ibT, ltT, ltF, leT, leF, eqT, eqF, nM_ltT, nM_ltF, nM_leT, nM_leF, nM_eqF, nM_eqF', nbT0, nbT1, oI_s, oI_n, natF, natT, nltT, nltF, nleT, nleF, ↓reduceIte, lgc, not_true_eq_false, not_false_eq_true, or_false, false_or, or_true, true_or, and_true, true_and, and_false, false_and, ne_eq, eq_self, or_self, and_self]) (wpt (by simp (disch := first | omega | decide) only [↓neg1, nlit, rI, rL, rI2, rL1, nI_add, pk_mul, sbT, dvT, nmd, ixT, ↓ibT, ltT, ltF, leT, leF, eqT, eqF, nM_ltT, nM_ltF, nM_leT, nM_leF, nM_eqF, nM_eqF', nbT0, nbT1, oI_s, oI_n, natF, natT, nltT, nltF, nleT, nleF, ↓reduceIte, lgc, not_true_eq_false, not_false_eq_true, or_false, false_or, or_true, true_or, and_true, true_and, and_false, false_and, ne_eq, eq_self, or_self, and_self]) (wpt (by simp (disch := first | omega | decide) only [↓neg1, nlit, rI, rL, rI2, rL1, nI_add, pk_mul, sbT, dvT, nmd, ixT, ↓ibT, ltT, ltF, leT, leF, eqT, eqF, nM_ltT, nM_ltF, nM_leT, nM_leF, nM_eqF, nM_eqF', nbT0, nbT1, oI_s, oI_n, natF, natT, nltT, nltF, nleT, nleF, ↓reduceIte, lgc, not_true_eq_false, not_false_eq_true, or_false, false_or, or_true, true_or, and_true, true_and, and_false, false_and, ne_eq, eq_self, or_self, and_self]) ?_))
      rw [ix_n (by omega), ix_n (by omega), g3.1 153 q rfl, (q4 q u2).2.1]
      have hs := sx_pI (v := nI (X.2.1 q).1) g3 (show qSt 158 (N - 1 - t) = true from decide_eq_true (by omega))
      refine wpl (wpt (by simp (disch := first | omega | decide) only [↓neg1, nlit, rI, rL, rI2, rL1, nI_add, pk_mul, sbT, dvT, nmd, ixT, ↓ibT, ltT, ltF, leT, leF, eqT, eqF, nM_ltT, nM_ltF, nM_leT, nM_leF, nM_eqF, nM_eqF', nbT0, nbT1, oI_s, oI_n, natF, natT, nltT, nltF, nleT, nleF, ↓reduceIte, lgc, not_true_eq_false, not_false_eq_true, or_false, false_or, or_true, true_or, and_true, true_and, and_false, false_and, ne_eq, eq_self, or_self, and_self]) ?_)
      rw [hs.1 155 q rfl, (q4 q u2).2.2.2.1]
      refine wpl (wpl ⟨?_, ?_, hs, ?_, fun k q' hk hq => ?_⟩)
      · show _ = oI ((upF X.2.1 p t).bind (fun q => (X.2.1 q).2.2))
        rw [u1]
        rfl
      · dsimp only
        by_cases e : t + 1 < N
        · rw [if_pos e]
          show nI (N - 1 - t) + (-1) = _
          rw [nI_m1 (by omega)]
          congr 1
        · rw [if_neg e, show N - 1 - t = 0 by omega]
          rfl
      · dsimp only
        rw [rI, if_neg (by omega)]
        exact g4
      · dsimp only
        rw [rI]
        by_cases e : k = t
        · subst e
          rw [if_pos ⟨rfl, rfl⟩]
          rw [u1] at hq
          cases hq
          rfl
        · rw [if_neg (by omega)]
          exact g5 k q' (by omega) hq
    · rintro ⟨v, t0, w⟩ ⟨g1, g2, g3, g4, g5⟩
      dsimp only at g1 g2 g3 g4 g5
      rw [if_neg (by omega)] at g2
      subst g2
      dsimp only
      exact wpt (by decide) ⟨g3, g4, g5⟩
    · rw [if_pos (by omega)]
      rfl
    · rintro x ⟨x1, x2, x3⟩
      exact ⟨x2, x1, x2, x3⟩
