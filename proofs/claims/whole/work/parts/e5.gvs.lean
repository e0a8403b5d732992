/-! READING a KIND: what its MARKS GIVE (the class alone) -/
section GVS
variable {n k t U m r : Nat} {c d w : cS} {T : Nat → Nat}
theorem ff_sc {p : Nat → Bool} {j : Nat} : ff p (j + 1) = match ff p j with
    | some l => some l
    | none => if p j = true then some j else none := by
  cases e : ff p j with
  | some l => exact ff_add e (fun _ _ => rfl)
  | none =>
    have h := ff_none e
    by_cases hp : p j = true
    · show _ = if p j = true then some j else none
      rw [if_pos hp]
      exact ff_new h hp
    · show _ = if p j = true then some j else none
      rw [if_neg hp]
      refine ff_no (fun i hi => ?_)
      by_cases ei : i = j
      · rw [ei]
        exact Bool.eq_false_iff.mpr hp
      · exact h i (by omega)
/-- the MARK of the row itself -/
def gvA (T : Nat → Nat) (U m s : Nat) : Int32 := match ff (fun j => decide (kyS (T j) = s)) m with
  | some j => nI (U + j)
  | none => nM
/-- else that of the first KIND that gives it -/
def gvB (c : cS) (T : Nat → Nat) (s m : Nat) (b : Int32) : Int32 := if 0 ≤ b then b else match ff (fun j => decide (T j < 100) && decide (0 ≤ c.1 (kA (T j) + 5) s)) m with
  | some j => c.1 (kA (T j) + 5) s
  | none => nM
def GVC (c : cS) (k : Nat) (T : Nat → Nat) (U m : Nat) : Prop := ∀ s, s < 16 → c.1 (kA k + 5) s = gvB c T s m (gvA T U m s)
def GVE (c : cS) (k : Nat) : Prop := ∀ s, s < 16 → c.1 (kA k + 5) s = nM ∨ ∃ x, x < 4096 ∧ c.1 (kA k + 5) s = nI x
theorem e221 (hn : 100 ≤ n) (hne : t ≠ k) : wp (d_221 n k t c) (fun d => sx (fun A _ => decide (A = kA k + 5)) c d ∧ ∀ s, s < 16 → d.1 (kA k + 5) s = if 0 ≤ c.1 (kA k + 5) s then c.1 (kA k + 5) s else c.1 (kA t + 5) s) := by
  unfold d_221
  refine wpb (whl_cnt (fun j (st : Int32 × cS) => st.1 = nI j ∧ sx (fun A _ => decide (A = kA k + 5)) c st.2 ∧ ∀ s, s < 16 → st.2.1 (kA k + 5) s = if s < j then (if 0 ≤ c.1 (kA k + 5) s then c.1 (kA k + 5) s else c.1 (kA t + 5) s) else c.1 (kA k + 5) s) 16 ?_ ?_ (by omega) ⟨rfl, sx_rfl, fun s hs => by rw [if_neg (by omega)]⟩)
  · rintro j ⟨q, w⟩ hj ⟨g1, g2, g3⟩
    dsimp only at g1 g2 g3
    subst g1
    have ej : ix (nI j) = j := ix_n (by omega)
    have hij : ib (nI j) 16 := ib_n hj (by decide)
    have w1 : w.1 (kA k + 5) j = c.1 (kA k + 5) j := by rw [g3 j hj, if_neg (by omega)]
    have w2 : w.1 (kA t + 5) j = c.1 (kA t + 5) j := g2.1 _ _ (decide_eq_false (by unfold kA; omega))
    dsimp only
    rw [ej, w1, w2]
    refine wpf (by simp (disch := first | omega | decide) only [↓neg1, nlit, rI, rL, rI2, rL1, nI_add, pk_mul, sbT, dvT, nmd, ixT, ↓ibT, ltT, ltF, leT, leF, eqT, eqF, nM_ltT, nM_ltF, nM_leT, nM_leF, nM_eqF, nM_eqF', nbT0, nbT1, oI_s, oI_n, natF, natT, nltT, nltF, nleT, nleF, ↓reduceIte, lgc, not_true_eq_false, not_false_eq_true, or_false, false_or, or_true, true_or, and_true, true_and, and_false, false_and, ne_eq, eq_self, or_self, and_self]) (wpt hij (wpj ?_))
    by_cases e : 0 ≤ c.1 (kA k + 5) j
    · refine wpt e (wpl ⟨nI_1 j, g2, fun s hs => ?_⟩)
      show w.1 (kA k + 5) s = _
      rw [g3 s hs]
      by_cases es : s = j
      · rw [es, if_neg (by omega), if_pos (by omega), if_pos e]
      · by_cases es2 : s < j
        · rw [if_pos es2, if_pos (show s < j + 1 by omega)]
        · rw [if_neg es2, if_neg (show ¬ s < j + 1 by omega)]
    · refine wpf e (wpt hij (wpt hij (wpl (wpl ⟨nI_1 j, sx_pI g2 (decide_eq_true rfl), fun s hs => ?_⟩))))
      show (pI w (kA k + 5) j (c.1 (kA t + 5) j)).1 (kA k + 5) s = _
      rw [rI]
      by_cases es : s = j
      · rw [if_pos ⟨rfl, es⟩, es, if_pos (by omega), if_neg e]
      · rw [if_neg (fun z => es z.2), g3 s hs]
        by_cases es2 : s < j
        · rw [if_pos es2, if_pos (show s < j + 1 by omega)]
        · rw [if_neg es2, if_neg (show ¬ s < j + 1 by omega)]
  · rintro ⟨q, w⟩ ⟨g1, g2, g3⟩
    dsimp only at g1 g2 g3
    subst g1
    dsimp only
    refine wpt (by decide) (wp_of (a := Sum.inr w) rfl ?_)
    rw [Sum.elim_inr]
    refine wp_of rfl ⟨g2, fun s hs => ?_⟩
    rw [g3 s hs, if_pos hs]
theorem e220 {x : Nat} (ht : t < 12 ∨ (100 ≤ t ∧ t < 104)) : d_220 n k (nI t) (nI x) c = some (if 0 ≤ c.1 (kA k + 5) (kyS t) then c else pI c (kA k + 5) (kyS t) (nI x)) := by
  have hk16 : kyS t < 16 := by
    unfold kyS
    split <;> omega
  have hib : ib (nI (kyS t)) 16 := ib_n hk16 (by decide)
  have ei : ix (nI (kyS t)) = kyS t := ix_n (by omega)
  have hin : ∀ {y : Int32}, y = nI (kyS t) → wp (if ib y 16 then
    jn (fun p4 : cS =>
      some p4)
    (fun j34 =>
    if 0 ≤ (c.1 (kA k + 5) (ix y)) then
      j34 c
    else
      if ib y 16 then
      lt (pI c (kA k + 5) (ix y) (nI x)) (fun c6 =>
      j34 c6)
      else none)
    else none) (fun r => r = if 0 ≤ c.1 (kA k + 5) (kyS t) then c else pI c (kA k + 5) (kyS t) (nI x)) := fun {y} hy => by
    subst hy
    rw [ei]
    refine wpt hib (wpj ?_)
    by_cases e : 0 ≤ c.1 (kA k + 5) (kyS t)
    · refine wpt e ?_
      show c = _
      rw [if_pos e]
    · refine wpf e (wpt hib (wpl ?_))
      show pI c (kA k + 5) (kyS t) (nI x) = _
      rw [if_neg e]
  unfold d_220
  refine eq_wp (wpj ?_)
  by_cases e : t < 100
  · exact wpt (by simp (disch := first | omega | decide) only [↓neg1, nlit, rI, rL, rI2, rL1, nI_add, pk_mul, sbT, dvT, nmd, ixT, ↓ibT, ltT, ltF, leT, leF, eqT, eqF, nM_ltT, nM_ltF, nM_leT, nM_leF, nM_eqF, nM_eqF', nbT0, nbT1, oI_s, oI_n, natF, natT, nltT, nltF, nleT, nleF, ↓reduceIte, lgc, not_true_eq_false, not_false_eq_true, or_false, false_or, or_true, true_or, and_true, true_and, and_false, false_and, ne_eq, eq_self, or_self, and_self]) (hin (by unfold kyS; rw [if_pos e]))
  · refine wpf (by simp (disch := first | omega | decide) only [↓neg1, nlit, rI, rL, rI2, rL1, nI_add, pk_mul, sbT, dvT, nmd, ixT, ↓ibT, ltT, ltF, leT, leF, eqT, eqF, nM_ltT, nM_ltF, nM_leT, nM_leF, nM_eqF, nM_eqF', nbT0, nbT1, oI_s, oI_n, natF, natT, nltT, nltF, nleT, nleF, ↓reduceIte, lgc, not_true_eq_false, not_false_eq_true, or_false, false_or, or_true, true_or, and_true, true_and, and_false, false_and, ne_eq, eq_self, or_self, and_self]) (hin ?_)
    unfold kyS
    rw [if_neg e]
    have h2 : ∀ z : Fin 4, (12 : Int32) + nI (100 + z.1) - 100 = nI (100 + z.1 - 88) := by decide
    have := h2 ⟨t - 100, by omega⟩
    rw [show 100 + (t - 100) = t by omega] at this
    exact this
theorem gvA_s {j s : Nat} (hU : U + j < 2147483648) : gvA T U (j + 1) s = if 0 ≤ gvA T U j s then gvA T U j s else if kyS (T j) = s then nI (U + j) else nM := by
  unfold gvA
  rw [ff_sc]
  cases e : ff (fun j => decide (kyS (T j) = s)) j with
  | some l =>
    have := (ff_some e).1
    dsimp only
    rw [if_pos (nI_pos' (by omega))]
  | none =>
    dsimp only
    rw [if_neg (show ¬ (0 : Int32) ≤ nM by decide)]
    by_cases ek : kyS (T j) = s
    · rw [if_pos (decide_eq_true ek), if_pos ek]
    · rw [if_neg (by rw [decide_eq_false ek]; decide), if_neg ek]
theorem gvB_s {j s : Nat} {b : Int32} (hE : T j < 100 → c.1 (kA (T j) + 5) s = nM ∨ ∃ x, x < 4096 ∧ c.1 (kA (T j) + 5) s = nI x) : gvB c T s (j + 1) b = if 0 ≤ gvB c T s j b then gvB c T s j b else if T j < 100 then c.1 (kA (T j) + 5) s else nM := by
  unfold gvB
  by_cases eb : 0 ≤ b
  · rw [if_pos eb, if_pos eb, if_pos eb]
  · rw [if_neg eb, if_neg eb, ff_sc]
    cases e : ff (fun j => decide (T j < 100) && decide (0 ≤ c.1 (kA (T j) + 5) s)) j with
    | some l =>
      have := (ff_some e).2.1
      dsimp only
      rw [if_pos (of_decide_eq_true (Bool.and_eq_true_iff.mp this).2)]
    | none =>
      dsimp only
      rw [if_neg (show ¬ (0 : Int32) ≤ nM by decide)]
      by_cases et : T j < 100
      · rw [if_pos et, decide_eq_true et]
        by_cases ep : 0 ≤ c.1 (kA (T j) + 5) s
        · rw [decide_eq_true ep]
          rfl
        · rw [decide_eq_false ep]
          show nM = _
          rcases hE et with z | ⟨x, z1, z2⟩
          · exact z.symm
          · rw [z2] at ep
            exact absurd (nI_pos' (by omega)) ep
      · rw [if_neg et, decide_eq_false et]
        rfl
theorem gvA_r {j s : Nat} : gvA T U j s = nM ∨ ∃ l, l < j ∧ gvA T U j s = nI (U + l) := by
  unfold gvA
  cases e : ff (fun j => decide (kyS (T j) = s)) j with
  | none => exact Or.inl rfl
  | some l => exact Or.inr ⟨l, (ff_some e).1, rfl⟩
theorem gvB_0 {s : Nat} {b : Int32} (h : b = nM ∨ ∃ x, x < 4096 ∧ b = nI x) : b = gvB c T s 0 b := by
  unfold gvB
  rcases h with z | ⟨x, z1, z2⟩
  · rw [z, if_neg (show ¬ (0 : Int32) ≤ nM by decide)]
    rfl
  · rw [z2, if_pos (nI_pos' (by omega))]
theorem gvB_n {s : Nat} {b : Int32} (h : ¬ 0 ≤ gvB c T s m b) : gvB c T s m b = nM := by
  unfold gvB at h ⊢
  by_cases eb : 0 ≤ b
  · rw [if_pos eb] at h
    exact absurd eb h
  · rw [if_neg eb] at h ⊢
    cases e : ff (fun j => decide (T j < 100) && decide (0 ≤ c.1 (kA (T j) + 5) s)) m with
    | some l =>
      rw [e] at h
      exact absurd (of_decide_eq_true (Bool.and_eq_true_iff.mp (ff_some e).2.1).2) h
    | none => rfl
theorem gvB_cg {s : Nat} {b : Int32} (hT : ∀ j, j < m → T j < k ∨ (100 ≤ T j ∧ T j < 104)) (h : ∀ t, t < k → d.1 (kA t + 5) s = c.1 (kA t + 5) s) : gvB d T s m b = gvB c T s m b := by
  unfold gvB
  have hc : ff (fun j => decide (T j < 100) && decide (0 ≤ d.1 (kA (T j) + 5) s)) m = ff (fun j => decide (T j < 100) && decide (0 ≤ c.1 (kA (T j) + 5) s)) m := ff_congr (fun l hl => by
    rcases hT l hl with z | z
    · rw [h _ z]
    · rw [decide_eq_false (show ¬ T l < 100 by omega), Bool.false_and, Bool.false_and])
  rw [hc]
  by_cases eb : 0 ≤ b
  · rw [if_pos eb, if_pos eb]
  · rw [if_neg eb, if_neg eb]
    cases e : ff (fun j => decide (T j < 100) && decide (0 ≤ c.1 (kA (T j) + 5) s)) m with
    | some l =>
      dsimp only
      have h1 := ff_some e
      have h2 := of_decide_eq_true (Bool.and_eq_true_iff.mp h1.2.1).1
      rcases hT l h1.1 with z | z
      · exact h _ z
      · omega
    | none => rfl
theorem gvB_r {s : Nat} {b : Int32} (hT : ∀ j, j < m → T j < k ∨ (100 ≤ T j ∧ T j < 104)) (hE : ∀ t, t < k → c.1 (kA t + 5) s = nM ∨ ∃ x, x < 4096 ∧ c.1 (kA t + 5) s = nI x) (h : b = nM ∨ ∃ x, x < 4096 ∧ b = nI x) : gvB c T s m b = nM ∨ ∃ x, x < 4096 ∧ gvB c T s m b = nI x := by
  unfold gvB
  by_cases eb : 0 ≤ b
  · rw [if_pos eb]
    exact h
  · rw [if_neg eb]
    cases e : ff (fun j => decide (T j < 100) && decide (0 ≤ c.1 (kA (T j) + 5) s)) m with
    | none => exact Or.inl rfl
    | some l =>
      have h1 := ff_some e
      have h2 := of_decide_eq_true (Bool.and_eq_true_iff.mp h1.2.1).1
      rcases hT l h1.1 with z | z
      · exact hE (T l) z
      · omega
/-- one MARK more -/
theorem gvA_w {j s : Nat} (hs : s < 16) (hU : U + j < 4096) (hky : kyS (T j) < 16) (g : ∀ s, s < 16 → w.1 (kA k + 5) s = gvA T U j s) : (if 0 ≤ w.1 (kA k + 5) (kyS (T j)) then w else pI w (kA k + 5) (kyS (T j)) (nI (U + j))).1 (kA k + 5) s = gvA T U (j + 1) s := by
  rw [gvA_s (by omega)]
  by_cases e0 : 0 ≤ w.1 (kA k + 5) (kyS (T j))
  · rw [if_pos e0, g s hs]
    rw [g _ hky] at e0
    by_cases ek : kyS (T j) = s
    · rw [ek] at e0
      rw [if_pos e0]
    · rw [if_neg ek]
      rcases gvA_r (T := T) (U := U) (j := j) (s := s) with z | ⟨l, z1, z2⟩
      · rw [z, if_neg (show ¬ (0 : Int32) ≤ nM by decide)]
      · rw [z2, if_pos (nI_pos' (by omega))]
  · rw [if_neg e0, rI]
    rw [g _ hky] at e0
    by_cases ek : kyS (T j) = s
    · rw [ek] at e0
      rw [if_pos ⟨rfl, ek.symm⟩, if_neg e0, if_pos ek]
    · rw [if_neg (fun z => ek z.2.symm), g s hs, if_neg ek]
      rcases gvA_r (T := T) (U := U) (j := j) (s := s) with z | ⟨l, z1, z2⟩
      · rw [z, if_neg (show ¬ (0 : Int32) ≤ nM by decide)]
      · rw [z2, if_pos (nI_pos' (by omega))]
theorem e267 (hn : 100 ≤ n) (hr : r < 2242) (hm : m ≤ 20) (hU : U + m ≤ 4096) (hk : k < 12) (h144 : c.1 144 r = nI m) (h142 : 0 < m → c.1 142 r = nI U) (h138 : ∀ j, j + 1 < m → c.1 138 (U + j) = nI (U + j + 1)) (h135 : ∀ j, j < m → c.1 135 (U + j) = nI (T j)) (hT : ∀ j, j < m → T j < k ∨ (100 ≤ T j ∧ T j < 104)) (h0 : ∀ s, s < 16 → c.1 (kA k + 5) s = nM) (hE : ∀ t, t < k → GVE c t) : wp (d_267 n k (nI r) c) (fun d => sx (fun A _ => decide (A = kA k + 5)) c d ∧ GVC d k T U m ∧ GVE d k) := by
  have hir : ib (nI r) 2242 := ib_n hr (by decide)
  have er : ix (nI r) = r := ix_n (by omega)
  have out : ∀ {d : cS}, sx (fun A _ => decide (A = kA k + 5)) c d → d.1 144 r = nI m ∧ d.1 142 r = c.1 142 r ∧ (∀ x, d.1 138 x = c.1 138 x) ∧ (∀ x, d.1 135 x = c.1 135 x) ∧ ∀ t s, t < k → d.1 (kA t + 5) s = c.1 (kA t + 5) s := fun {d} h => by
    refine ⟨?_, ?_, fun x => ?_, fun x => ?_, fun t s z => ?_⟩
    · rw [h.1 _ _ (decide_eq_false (by unfold kA; omega))]
      exact h144
    · exact h.1 _ _ (decide_eq_false (by unfold kA; omega))
    · exact h.1 _ _ (decide_eq_false (by unfold kA; omega))
    · exact h.1 _ _ (decide_eq_false (by unfold kA; omega))
    · exact h.1 _ _ (decide_eq_false (by unfold kA; omega))
  have hgA : ∀ j s, gvA T U j s = nM ∨ ∃ l, l < j ∧ gvA T U j s = nI (U + l) := fun j s => gvA_r
  unfold d_267
  rw [er]
  refine wpt hir (wpl (wpb (whl_cnt (fun j (st : Int32 × Int32 × cS) => (j < m → st.1 = nI (U + j)) ∧ st.2.1 = nI j ∧ sx (fun A _ => decide (A = kA k + 5)) c st.2.2 ∧ ∀ s, s < 16 → st.2.2.1 (kA k + 5) s = gvA T U j s) m ?_ ?_ (by omega) ⟨fun z => by rw [Nat.add_zero]; exact h142 z, rfl, sx_rfl, fun s hs => h0 s hs⟩)))
  · rintro j ⟨q, q2, w⟩ hj ⟨g1, g2, g3, g4⟩
    dsimp only at g1 g2 g3 g4
    have g1 := g1 hj
    subst g1 g2
    obtain ⟨o1, o2, o3, o4, o5⟩ := out g3
    have eU : ix (nI (U + j)) = U + j := ix_n (by omega)
    have hiU : ib (nI (U + j)) 4096 := ib_n (by omega) (by decide)
    dsimp only
    rw [o1, eU, o4, h135 j hj]
    have htj : T j < 12 ∨ (100 ≤ T j ∧ T j < 104) := by
      have := hT j hj
      omega
    obtain ⟨w', hw'⟩ : ∃ w', w' = (if 0 ≤ w.1 (kA k + 5) (kyS (T j)) then w else pI w (kA k + 5) (kyS (T j)) (nI (U + j))) := ⟨_, rfl⟩
    have sw : sx (fun A _ => decide (A = kA k + 5)) c w' := by
      rw [hw']
      split
      · exact g3
      · exact sx_pI g3 (decide_eq_true rfl)
    refine wpt hir (wpf (by simp (disch := first | omega | decide) only [↓neg1, nlit, rI, rL, rI2, rL1, nI_add, pk_mul, sbT, dvT, nmd, ixT, ↓ibT, ltT, ltF, leT, leF, eqT, eqF, nM_ltT, nM_ltF, nM_leT, nM_leF, nM_eqF, nM_eqF', nbT0, nbT1, oI_s, oI_n, natF, natT, nltT, nltF, nleT, nleF, ↓reduceIte, lgc, not_true_eq_false, not_false_eq_true, or_false, false_or, or_true, true_or, and_true, true_and, and_false, false_and, ne_eq, eq_self, or_self, and_self]) (wpt hiU (wpe (e220 htj) (wpt hiU (wpl (wpl ⟨fun z => ?_, nI_1 j, ?_⟩))))))
    · show (if 0 ≤ w.1 (kA k + 5) (kyS (T j)) then w else pI w (kA k + 5) (kyS (T j)) (nI (U + j))).1 138 (U + j) = _
      rw [← hw', (out sw).2.2.1]
      exact h138 j z
    · show sx _ c (if 0 ≤ w.1 (kA k + 5) (kyS (T j)) then w else pI w (kA k + 5) (kyS (T j)) (nI (U + j))) ∧ ∀ s, s < 16 → (if 0 ≤ w.1 (kA k + 5) (kyS (T j)) then w else pI w (kA k + 5) (kyS (T j)) (nI (U + j))).1 (kA k + 5) s = _
      rw [← hw']
      refine ⟨sw, fun s hs => ?_⟩
      rw [hw']
      exact gvA_w hs (by omega) (by unfold kyS; split <;> omega) g4
  · rintro ⟨q, q2, w⟩ ⟨-, g2, g3, g4⟩
    dsimp only at g2 g3 g4
    subst g2
    obtain ⟨o1, o2, o3, o4, o5⟩ := out g3
    dsimp only
    rw [o1]
    refine wpt hir (wpt (by simp (disch := first | omega | decide) only [↓neg1, nlit, rI, rL, rI2, rL1, nI_add, pk_mul, sbT, dvT, nmd, ixT, ↓ibT, ltT, ltF, leT, leF, eqT, eqF, nM_ltT, nM_ltF, nM_leT, nM_leF, nM_eqF, nM_eqF', nbT0, nbT1, oI_s, oI_n, natF, natT, nltT, nltF, nleT, nleF, ↓reduceIte, lgc, not_true_eq_false, not_false_eq_true, or_false, false_or, or_true, true_or, and_true, true_and, and_false, false_and, ne_eq, eq_self, or_self, and_self]) (wp_of (a := Sum.inr w) rfl (wpt hir (wpl ?_))))
    rw [o2]
    refine wpb (whl_cnt (fun j (st : Int32 × Int32 × cS) => (j < m → st.1 = nI (U + j)) ∧ st.2.1 = nI j ∧ sx (fun A _ => decide (A = kA k + 5)) c st.2.2 ∧ ∀ s, s < 16 → st.2.2.1 (kA k + 5) s = gvB c T s j (gvA T U m s)) m ?_ ?_ (by omega) ⟨fun z => by rw [Nat.add_zero]; exact h142 z, rfl, g3, fun s hs => ?_⟩)
    · rintro j ⟨p, p2, v⟩ hj ⟨f1, f2, f3, f4⟩
      dsimp only at f1 f2 f3 f4
      have f1 := f1 hj
      subst f1 f2
      obtain ⟨o1, o2, o3, o4, o5⟩ := out f3
      have eU : ix (nI (U + j)) = U + j := ix_n (by omega)
      have hiU : ib (nI (U + j)) 4096 := ib_n (by omega) (by decide)
      dsimp only
      rw [o1, eU, o4, h135 j hj]
      have hTj := hT j hj
      have hB := fun s (hs : s < 16) => gvB_s (c := c) (T := T) (j := j) (s := s) (b := gvA T U m s) (fun et => hE (T j) (by omega) s hs)
      refine wpt hir (wpf (by simp (disch := first | omega | decide) only [↓neg1, nlit, rI, rL, rI2, rL1, nI_add, pk_mul, sbT, dvT, nmd, ixT, ↓ibT, ltT, ltF, leT, leF, eqT, eqF, nM_ltT, nM_ltF, nM_leT, nM_leF, nM_eqF, nM_eqF', nbT0, nbT1, oI_s, oI_n, natF, natT, nltT, nltF, nleT, nleF, ↓reduceIte, lgc, not_true_eq_false, not_false_eq_true, or_false, false_or, or_true, true_or, and_true, true_and, and_false, false_and, ne_eq, eq_self, or_self, and_self]) (wpt hiU (wpj ?_)))
      by_cases et : 100 ≤ T j
      · refine wpt (by simp (disch := first | omega | decide) only [↓neg1, nlit, rI, rL, rI2, rL1, nI_add, pk_mul, sbT, dvT, nmd, ixT, ↓ibT, ltT, ltF, leT, leF, eqT, eqF, nM_ltT, nM_ltF, nM_leT, nM_leF, nM_eqF, nM_eqF', nbT0, nbT1, oI_s, oI_n, natF, natT, nltT, nltF, nleT, nleF, ↓reduceIte, lgc, not_true_eq_false, not_false_eq_true, or_false, false_or, or_true, true_or, and_true, true_and, and_false, false_and, ne_eq, eq_self, or_self, and_self]) (wpt hiU (wpl (wpl ⟨fun z => ?_, nI_1 j, f3, fun s hs => ?_⟩)))
        · show v.1 138 (U + j) = _
          rw [o3]
          exact h138 j z
        · rw [hB s hs, if_neg (show ¬ T j < 100 by omega)]
          show v.1 (kA k + 5) s = _
          rw [f4 s hs]
          by_cases e0 : 0 ≤ gvB c T s j (gvA T U m s)
          · rw [if_pos e0]
          · rw [if_neg e0]
            exact gvB_n e0
      · have hlt : T j < k := by omega
        have eT : ix (nI (T j)) = T j := ix_n (by omega)
        rw [eT]
        refine wpf (by simp (disch := first | omega | decide) only [↓neg1, nlit, rI, rL, rI2, rL1, nI_add, pk_mul, sbT, dvT, nmd, ixT, ↓ibT, ltT, ltF, leT, leF, eqT, eqF, nM_ltT, nM_ltF, nM_leT, nM_leF, nM_eqF, nM_eqF', nbT0, nbT1, oI_s, oI_n, natF, natT, nltT, nltF, nleT, nleF, ↓reduceIte, lgc, not_true_eq_false, not_false_eq_true, or_false, false_or, or_true, true_or, and_true, true_and, and_false, false_and, ne_eq, eq_self, or_self, and_self]) (wpt hiU (wpt (ib_n (by omega) (by decide)) (wpc (e221 hn (show T j ≠ k by omega)) (fun v' hv' => ?_))))
        obtain ⟨s1, s2⟩ := hv'
        have sv := sx_trans f3 s1
        refine wpt hiU (wpl (wpl ⟨fun z => ?_, nI_1 j, sv, fun s hs => ?_⟩))
        · show v'.1 138 (U + j) = _
          rw [(out sv).2.2.1]
          exact h138 j z
        · show v'.1 (kA k + 5) s = _
          rw [s2 s hs, f4 s hs, o5 _ _ hlt, hB s hs, if_pos (show T j < 100 by omega)]
    · rintro ⟨p, p2, v⟩ ⟨-, f2, f3, f4⟩
      dsimp only at f2 f3 f4
      subst f2
      obtain ⟨o1, o2, o3, o4, o5⟩ := out f3
      dsimp only
      rw [o1]
      refine wpt hir (wpt (by simp (disch := first | omega | decide) only [↓neg1, nlit, rI, rL, rI2, rL1, nI_add, pk_mul, sbT, dvT, nmd, ixT, ↓ibT, ltT, ltF, leT, leF, eqT, eqF, nM_ltT, nM_ltF, nM_leT, nM_leF, nM_eqF, nM_eqF', nbT0, nbT1, oI_s, oI_n, natF, natT, nltT, nltF, nleT, nleF, ↓reduceIte, lgc, not_true_eq_false, not_false_eq_true, or_false, false_or, or_true, true_or, and_true, true_and, and_false, false_and, ne_eq, eq_self, or_self, and_self]) (wp_of (a := Sum.inr v) rfl ?_))
      rw [Sum.elim_inr]
      refine wp_of rfl ⟨f3, fun s hs => by rw [f4 s hs, gvB_cg hT (fun t ht => o5 t s ht)], fun s hs => ?_⟩
      rw [f4 s hs]
      refine gvB_r hT (fun t ht => hE t ht s hs) ?_
      rcases hgA m s with z | ⟨l, z1, z2⟩
      · exact Or.inl z
      · exact Or.inr ⟨U + l, by omega, z2⟩
    · rw [g4 s hs]
      refine gvB_0 ?_
      rcases hgA m s with z | ⟨l, z1, z2⟩
      · exact Or.inl z
      · exact Or.inr ⟨U + l, by omega, z2⟩
end GVS
