/-! WAY: the class's search from the entry -/
def E0 (_ : Nat) : Nat × Int64 × Option Nat := (0, 0, none)
def X0 (m : cS) (o M i k : Nat) (K : Nat → Nat) : WQ := meet (shw m o M i k K) 0 (entK m o M K (lcn m M)) none (0, E0, none, false)
theorem SW_0 {c m : cS} {o M : Nat} {K : Nat → Nat} (hX : FX c m o M K) : SW m o M 0 (entK m o M K (lcn m M)) := by
  obtain ⟨r1, r2⟩ := RCH_0 hX.2.2.1 hX.2.2.2.1
  have hl := (FX_L hX).2.1
  refine ⟨(FX_L hX).2.2.2.1, r1, fun j hj => ?_⟩
  rw [r2, nbl_ent hX hj _ hl]
  by_cases e : j < lcn m M
  · rw [if_pos (Or.inl e), if_pos e]
    exact entV_lt hX
  · rw [if_neg (by omega), if_neg e]
theorem WE_0 {c m : cS} {o M i k : Nat} {K : Nat → Nat} (hX : FX c m o M K) : WE m o M (X0 m o M i k K) := WE_meet ⟨by show 0 ≤ 400; omega, fun _ => rfl, fun p hp => (by cases hp), fun j hj => absurd hj (Nat.not_lt_zero _)⟩ (SW_0 hX) (fun f hf => by cases hf)
def XQ (m : cS) (o M i k : Nat) (K : Nat → Nat) : Nat → WQ := itQ (stQ m o M K (shw m o M i k K)) (X0 m o M i k K)
/-- how a search ends: the answer a, the number of steps and the steps behind it -/
def ANS (X : WQ) (a b b0 : Int32) (S S0 : Nat → Int32) : Prop := (X.2.2.1 = none ∧ a = (if X.2.2.2 = true then -2 else 0) ∧ b = b0 ∧ S = S0) ∨ ∃ p N, X.2.2.1 = some p ∧ 1 ≤ N ∧ N ≤ 400 ∧ upF X.2.1 p N = none ∧ (∀ k, k < N → ∃ q, upF X.2.1 p k = some q ∧ q < X.1) ∧ a = nI N ∧ b = nI N ∧ ∀ k q, k < N → upF X.2.1 p k = some q → S (N - 1 - k) = nI (X.2.1 q).1
def qYC (a i : Nat) : Bool := decide ((a = 150 ∧ (i = 12 ∨ i = 13 ∨ i = 14 ∨ i = 16)) ∨ (153 ≤ a ∧ a ≤ 158))
theorem e212 {n o M i k j0 : Nat} {c m u : cS} {K : Nat → Nat} (hn : 10000 ≤ n) (h : FC c m u o) (hK : ∀ p, TM m c p o = K p) (hM : isMt m M) (hi : i < acn m M) (hk : k < wnt m (40 * M + i)) (hj0 : j0 < 2048) (h152 : c.1 152 j0 = nI (M * 160 + i * 4 + k)) : wp (d_212 n (nI j0) c) (fun r => ∃ kk, (∀ j, j < kk → cnQ j (XQ m o M i k K j)) ∧ ¬ cnQ kk (XQ m o M i k K kk) ∧ sx qYC c r.2 ∧ ANS (XQ m o M i k K kk) r.1 (r.2.1 150 16) (c.1 150 16) (r.2.1 158) (c.1 158)) := by
  have hX0 := FC_X h hM
  have hKf : (fun p => TM m c p o) = K := funext hK
  rw [hKf] at hX0
  have hM96 := isMt_lt hX0.2.1 hM
  have hn40 := (FX_L hX0).2.2.1
  have hw4 := wnt_le hX0.2.1 (MTS_ac hX0.2.2.1 hM hi).2.2.2.2.2.2.1
  unfold d_212
  refine wpt (by simp (disch := first | omega | decide) only [↓neg1, nlit, rI, rL, rI2, rL1, nI_add, pk_mul, sbT, dvT, nmd, ixT, ↓ibT, ltT, ltF, leT, leF, eqT, eqF, nM_ltT, nM_ltF, nM_leT, nM_leF, nM_eqF, nM_eqF', nbT0, nbT1, oI_s, oI_n, natF, natT, nltT, nltF, nleT, nleF, ↓reduceIte, lgc, not_true_eq_false, not_false_eq_true, or_false, false_or, or_true, true_or, and_true, true_and, and_false, false_and, ne_eq, eq_self, or_self, and_self]) ?_
  rw [ix_n (by omega), h152]
  refine wpl (wpl (wpl ?_))
  generalize e1 : pI (pI (pI c 150 13 (nI (M * 160 + i * 4 + k))) 150 14 (-1)) 150 12 0 = c1
  have s1 : sx qYC c c1 := by
    rw [← e1]
    exact sx_pI (sx_pI (sx_pI sx_rfl rfl) rfl) rfl
  have a12 : c1.1 150 12 = nI 0 := by
    rw [← e1, rI, if_pos ⟨rfl, rfl⟩]
    rfl
  have a14 : c1.1 150 14 = -1 := by
    rw [← e1, rI, if_neg (by omega), rI, if_pos ⟨rfl, rfl⟩]
  have a13 : c1.1 150 13 = nI (M * 160 + i * 4 + k) := by
    rw [← e1, rI, if_neg (by omega), rI, if_neg (by omega), rI, if_pos ⟨rfl, rfl⟩]
  have a16 : c1.1 150 16 = c.1 150 16 := by
    rw [← e1, rI, if_neg (by omega), rI, if_neg (by omega), rI, if_neg (by omega)]
  have a158 : c1.1 158 = c.1 158 := by
    funext j
    rw [← e1, rI, if_neg (by omega), rI, if_neg (by omega), rI, if_neg (by omega)]
  refine wpc (e153 (by omega) (by omega)) (fun c2 hc2 => ?_)
  obtain ⟨f1, f2, f3⟩ := hc2
  have s2 : sx qYC c c2 := sx_trans s1 (sx_fill f2 f3 (fun i => decide_eq_true (by omega)))
  have b13 : c2.1 150 13 = nI (M * 160 + i * 4 + k) := by
    rw [f2 150 (by decide)]
    exact a13
  have b16 : c2.1 150 16 = c.1 150 16 := by
    rw [f2 150 (by decide)]
    exact a16
  have b158 : c2.1 158 = c.1 158 := by
    rw [f2 158 (by decide)]
    exact a158
  have hQ0 : QC c2 (0, E0, none, false) := by
    refine ⟨⟨by show 0 ≤ 400; omega, fun p hp => by cases hp⟩, ?_, ?_, fun j hj => absurd hj (Nat.not_lt_zero _), fun a ha => ?_⟩
    · rw [f2 150 (by decide)]
      exact a12
    · rw [f2 150 (by decide)]
      exact a14
    · rw [f1, if_pos ha]
      rfl
  obtain ⟨hFC2, hTM2⟩ := FC_sx h s2 ⟨fun a i h1 h2 h3 => decide_eq_false (by omega), fun i h => decide_eq_false (by omega)⟩ (fun i => decide_eq_false (by omega)) (fun i => decide_eq_false (by omega)) (fun i => decide_eq_false (by omega)) rfl
  have hK2 : ∀ p, TM m c2 p o = K p := fun p => (hTM2 p).trans (hK p)
  have hKf2 : (fun p => TM m c2 p o) = K := funext hK2
  rw [b13, show nI (M * 160 + i * 4 + k) / 160 = nI M by
    rw [show nI (M * 160 + i * 4 + k) / 160 = nI ((M * 160 + i * 4 + k) / 160) from dvT (by omega) (by decide) (by decide)]
    exact congrArg nI (by omega)]
  refine wpl ?_
  have h198 := e198 (n := n) (by omega) hFC2 hM
  rw [hKf2] at h198
  refine wpe h198 ?_
  have hs0 := SW_0 hX0
  refine wpc (e214 (k := k) (fr := none) (sh := shw m o M i k K) (by omega) hFC2 hM hi hk b13 hQ0 (a := 0) (s := entK m o M K (lcn m M)) (by omega) (fun z => by rw [← z]; exact hs0.2) (by unfold shw; rw [hK2])) (fun c3 hc3 => ?_)
  obtain ⟨hQ3, s3⟩ := hc3
  have hW := WE_0 (i := i) (k := k) hX0
  refine wpc (K' := fun d : cS => ∃ kk, (∀ j, j < kk → cnQ j (XQ m o M i k K j)) ∧ ¬ cnQ kk (XQ m o M i k K kk) ∧ sx qYc c2 d ∧ QC d (XQ m o M i k K kk)) (whl_cnt (fun t (st : Int32 × cS) => st.1 = nI t ∧ (∀ j, j < t → cnQ j (XQ m o M i k K j)) ∧ sx qYc c2 st.2 ∧ QC st.2 (XQ m o M i k K t)) 400 ?_ ?_ (by omega) ⟨rfl, fun j hj => by omega, s3, hQ3⟩) ?_
  · rintro t ⟨a, w⟩ ht ⟨g1, g2, g3, g4⟩
    dsimp only at g1 g2 g3 g4
    subst g1
    have hWt := WE_it hX0 hW t g2
    have hWt : WE m o M (XQ m o M i k K t) := hWt
    obtain ⟨⟨z1, z0⟩, z2, z3, -⟩ := id g4
    dsimp only
    refine wpf (by simp (disch := first | omega | decide) only [↓neg1, nlit, rI, rL, rI2, rL1, nI_add, pk_mul, sbT, dvT, nmd, ixT, ↓ibT, ltT, ltF, leT, leF, eqT, eqF, nM_ltT, nM_ltF, nM_leT, nM_leF, nM_eqF, nM_eqF', nbT0, nbT1, oI_s, oI_n, natF, natT, nltT, nltF, nleT, nleF, ↓reduceIte, lgc, not_true_eq_false, not_false_eq_true, or_false, false_or, or_true, true_or, and_true, true_and, and_false, false_and, ne_eq, eq_self, or_self, and_self]) ?_
    rw [z2]
    by_cases e1 : (XQ m o M i k K t).1 ≤ t
    · refine wpt (by simp (disch := first | omega | decide) only [↓neg1, nlit, rI, rL, rI2, rL1, nI_add, pk_mul, sbT, dvT, nmd, ixT, ↓ibT, ltT, ltF, leT, leF, eqT, eqF, nM_ltT, nM_ltF, nM_leT, nM_leF, nM_eqF, nM_eqF', nbT0, nbT1, oI_s, oI_n, natF, natT, nltT, nltF, nleT, nleF, ↓reduceIte, lgc, not_true_eq_false, not_false_eq_true, or_false, false_or, or_true, true_or, and_true, true_and, and_false, false_and, ne_eq, eq_self, or_self, and_self]) ⟨t, g2, fun z => ?_, g3, g4⟩
      have := z.1
      omega
    refine wpf (by simp (disch := first | omega | decide) only [↓neg1, nlit, rI, rL, rI2, rL1, nI_add, pk_mul, sbT, dvT, nmd, ixT, ↓ibT, ltT, ltF, leT, leF, eqT, eqF, nM_ltT, nM_ltF, nM_leT, nM_leF, nM_eqF, nM_eqF', nbT0, nbT1, oI_s, oI_n, natF, natT, nltT, nltF, nleT, nleF, ↓reduceIte, lgc, not_true_eq_false, not_false_eq_true, or_false, false_or, or_true, true_or, and_true, true_and, and_false, false_and, ne_eq, eq_self, or_self, and_self]) ?_
    by_cases e2 : (XQ m o M i k K t).2.2.1 = none ∧ (XQ m o M i k K t).2.2.2 = false
    · refine wpt (by rw [z3, e2.2, e2.1]; rfl) (wpt (by simp (disch := first | omega | decide) only [↓neg1, nlit, rI, rL, rI2, rL1, nI_add, pk_mul, sbT, dvT, nmd, ixT, ↓ibT, ltT, ltF, leT, leF, eqT, eqF, nM_ltT, nM_ltF, nM_leT, nM_leF, nM_eqF, nM_eqF', nbT0, nbT1, oI_s, oI_n, natF, natT, nltT, nltF, nleT, nleF, ↓reduceIte, lgc, not_true_eq_false, not_false_eq_true, or_false, false_or, or_true, true_or, and_true, true_and, and_false, false_and, ne_eq, eq_self, or_self, and_self]) ?_)
      obtain ⟨hFCw, hTMw⟩ := FC_Yc hFC2 g3
      have hmt := (hFCw.1.2.2.2.1 M hM).1
      have h119 := hmt.2.2.2.2.2.2.2.1
      rw [ix_n (by omega), h119]
      refine wpc (e213 (by omega) hFCw (fun p => (hTMw p).trans (hK2 p)) hM hi hk ((g3.1 150 13 rfl).trans b13) g4 hWt (by omega)) (fun d hd => ?_)
      refine wpl ⟨nI_1 _, fun j hj => ?_, sx_trans g3 hd.2, hd.1⟩
      by_cases ej : j = t
      · subst ej
        exact ⟨by omega, e2⟩
      · exact g2 j (by omega)
    · refine wpf (fun z => e2 ?_) ⟨t, g2, fun z => e2 z.2, g3, g4⟩
      rw [z3] at z
      by_cases e : (XQ m o M i k K t).2.2.2 = true
      · rw [if_pos e] at z
        exact absurd z (by decide)
      · rw [if_neg e] at z
        refine ⟨?_, by simpa using e⟩
        cases hf : (XQ m o M i k K t).2.2.1 with
        | none => rfl
        | some p =>
          have hp := z0 p hf
          rw [hf] at z
          have z : nI p = nM := z
          rw [nM_eqF (by omega)] at z
          exact z.elim
  · rintro ⟨a, w⟩ ⟨g1, g2, g3, g4⟩
    dsimp only at g1 g2 g3 g4
    subst g1
    dsimp only
    refine wpt (by simp (disch := first | omega | decide) only [↓neg1, nlit, rI, rL, rI2, rL1, nI_add, pk_mul, sbT, dvT, nmd, ixT, ↓ibT, ltT, ltF, leT, leF, eqT, eqF, nM_ltT, nM_ltF, nM_leT, nM_leF, nM_eqF, nM_eqF', nbT0, nbT1, oI_s, oI_n, natF, natT, nltT, nltF, nleT, nleF, ↓reduceIte, lgc, not_true_eq_false, not_false_eq_true, or_false, false_or, or_true, true_or, and_true, true_and, and_false, false_and, ne_eq, eq_self, or_self, and_self]) ⟨400, g2, fun z => ?_, g3, g4⟩
    have := z.1
    have := g4.1.1
    omega
  · rintro d ⟨kk, k1, k2, k3, k4⟩
    have hWk : WE m o M (XQ m o M i k K kk) := WE_it hX0 hW kk k1
    have sd : sx qYC c d := sx_trans s2 (sx_wide k3 (fun a i z => by
      have := of_decide_eq_false z
      exact decide_eq_false (by omega)))
    have d16 : d.1 150 16 = c.1 150 16 := (k3.1 150 16 rfl).trans b16
    have d158 : d.1 158 = c.1 158 := by
      rw [← b158]
      funext j
      exact k3.1 158 j rfl
    obtain ⟨⟨z1, z0⟩, z2, z3, -⟩ := id k4
    generalize hXk : XQ m o M i k K kk = Xk at *
    by_cases e1 : Xk.2.2.2 = true
    · have e0 := hWk.2.1 e1
      refine wpt (by rw [z3, if_pos e1]) ⟨kk, k1, ?_, sd, Or.inl ⟨?_, ?_, d16, d158⟩⟩
      · rw [hXk]
        exact k2
      · rw [hXk]
        exact e0
      · rw [hXk, if_pos e1]
    · rw [if_neg e1] at z3
      cases hf : Xk.2.2.1 with
      | none =>
        rw [hf] at z3
        refine wpf (by rw [z3]; decide) (wpj (wpt z3 ⟨kk, k1, ?_, sd, Or.inl ⟨?_, ?_, d16, d158⟩⟩))
        · rw [hXk]
          exact k2
        · rw [hXk]
          exact hf
        · rw [hXk, if_neg e1]
      | some p =>
        rw [hf] at z3
        have hp := z0 p hf
        have z3 : d.1 150 14 = nI p := z3
        obtain ⟨N, n1, n2, n3, n4⟩ := upF_ex hp z1 (fun j hj => (hWk.2.2.2 j hj).2)
        have hz2 : ¬ d.1 150 14 = -2 := by
          rw [z3]
          intro z
          have := congrArg Int32.toInt z
          rw [nI_toInt (by omega), show (-2 : Int32).toInt = -2 by decide] at this
          omega
        refine wpf hz2 (wpj (wpf (by rw [z3]; simp (disch := first | omega | decide) only [↓neg1, nlit, rI, rL, rI2, rL1, nI_add, pk_mul, sbT, dvT, nmd, ixT, ↓ibT, ltT, ltF, leT, leF, eqT, eqF, nM_ltT, nM_ltF, nM_leT, nM_leF, nM_eqF, nM_eqF', nbT0, nbT1, oI_s, oI_n, natF, natT, nltT, nltF, nleT, nleF, ↓reduceIte, lgc, not_true_eq_false, not_false_eq_true, or_false, false_or, or_true, true_or, and_true, true_and, and_false, false_and, ne_eq, eq_self, or_self, and_self]) ?_))
        refine wpc (e216 (by omega) k4 hf (by simpa using e1) n1 n2 n3 n4) (fun r hr => ?_)
        obtain ⟨r1, r2, r3, r4⟩ := hr
        refine ⟨kk, k1, ?_, sx_trans sd (sx_wide r2 (fun a i z => by
          have := of_decide_eq_false z
          exact decide_eq_false (by omega))), ?_⟩
        · rw [hXk]
          exact k2
        · rw [hXk]
          exact Or.inr ⟨p, N, hf, n1, n2, n3, n4, r1, r3, r4⟩
