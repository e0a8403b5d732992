/-! A FILE: the class reads it -/
section FLCS
variable {n a L w lo hi x K : Nat} {b : Nat → Nat} {c d e0 : cS}
theorem pI_pI {A i : Nat} {v v' : Int32} : pI (pI c A i v) A i v' = pI c A i v' := by
  refine Prod.ext (funext fun B => funext fun k => ?_) rfl
  show (pI (pI c A i v) A i v').1 B k = (pI c A i v').1 B k
  by_cases e : B = A ∧ k = i
  · rw [rI, if_pos e, rI, if_pos e]
  · rw [rI, if_neg e, rI, if_neg e, rI, if_neg e]
/-- where the class stands in a FILE, nothing wrong; something wrong -/
def FCS (c : cS) (b : Nat → Nat) (L a : Nat) : Prop := a ≤ L ∧ L ≤ 4000 ∧ c.1 145 10 = nI a ∧ c.1 145 11 = nI L ∧ c.1 145 6 = nM ∧ ∀ j, j < L → b j < 256 ∧ c.1 2 j = sb (b j)
def FCW (c : cS) (w : Nat) : Prop := w ≤ 4000 ∧ c.1 145 6 = nI w ∧ ∃ a L, a ≤ 4000 ∧ L ≤ 4000 ∧ c.1 145 10 = nI a ∧ c.1 145 11 = nI L
def q145f (A l : Nat) : Bool := decide (A = 145 ∧ (l = 6 ∨ l = 10))
theorem FCS_at {a' : Nat} (h : FCS c b L a) (ha : a' ≤ L) : FCS (pI c 145 10 (nI a')) b L a' := by
  obtain ⟨h1, h2, h3, h4, h5, h6⟩ := h
  exact ⟨ha, h2, by rw [rI, if_pos ⟨rfl, rfl⟩], by rw [rI, if_neg (by omega)]; exact h4, by rw [rI, if_neg (by omega)]; exact h5, fun j hj => by rw [rI, if_neg (by omega)]; exact h6 j hj⟩
theorem FCS_self (h : FCS c b L a) : pI c 145 10 (nI a) = c := pI_self h.2.2.1
theorem e293w {x y : Int32} (h : FCW c w) : d_293 n x y c = some (nM, c) := by
  unfold d_293
  rw [h.2.1]
  exact eq_wp (wpf (nI_pos (by have := h.1; omega)) rfl)
theorem e293s (h : FCS c b L a) (hf : fby b L lo hi a = some x) (hh : hi < 256) : d_293 n (nI lo) (nI hi) c = some (nI x, pI c 145 10 (nI (a + 1))) := by
  obtain ⟨h1, h2, h3, h4, h5, h6⟩ := h
  obtain ⟨f1, f2, f3, f4⟩ := fby_some hf
  obtain ⟨g1, g2⟩ := h6 a f1
  unfold d_293
  rw [h5, h3, h4, show ix (nI a) = a from ix_n (by omega), g2, sb_255 g1, ← f4, nI_1]
  exact eq_wp (wpt (by decide) (wpj (wpf (by simp (disch := first | omega | decide) only [↓neg1, nlit, rI, rL, rI2, rL1, nI_add, pk_mul, sbT, dvT, nmd, ixT, ↓ibT, ltT, ltF, leT, leF, eqT, eqF, nM_ltT, nM_ltF, nM_leT, nM_leF, nM_eqF, nM_eqF', nbT0, nbT1, oI_s, oI_n, natF, natT, nltT, nltF, nleT, nleF, ↓reduceIte, lgc, not_true_eq_false, not_false_eq_true, or_false, false_or, or_true, true_or, and_true, true_and, and_false, false_and, ne_eq, eq_self, or_self, and_self]) (wpt (ib_n (by omega) (by decide)) (wpj (wpf (by simp (disch := first | omega | decide) only [↓neg1, nlit, rI, rL, rI2, rL1, nI_add, pk_mul, sbT, dvT, nmd, ixT, ↓ibT, ltT, ltF, leT, leF, eqT, eqF, nM_ltT, nM_ltF, nM_leT, nM_leF, nM_eqF, nM_eqF', nbT0, nbT1, oI_s, oI_n, natF, natT, nltT, nltF, nleT, nleF, ↓reduceIte, lgc, not_true_eq_false, not_false_eq_true, or_false, false_or, or_true, true_or, and_true, true_and, and_false, false_and, ne_eq, eq_self, or_self, and_self]) (wpt (by simp (disch := first | omega | decide) only [↓neg1, nlit, rI, rL, rI2, rL1, nI_add, pk_mul, sbT, dvT, nmd, ixT, ↓ibT, ltT, ltF, leT, leF, eqT, eqF, nM_ltT, nM_ltF, nM_leT, nM_leF, nM_eqF, nM_eqF', nbT0, nbT1, oI_s, oI_n, natF, natT, nltT, nltF, nleT, nleF, ↓reduceIte, lgc, not_true_eq_false, not_false_eq_true, or_false, false_or, or_true, true_or, and_true, true_and, and_false, false_and, ne_eq, eq_self, or_self, and_self]) (wpl rfl))))))))
theorem e293n (h : FCS c b L a) (hf : fby b L lo hi a = none) (hl : lo < 256) (hh : hi < 256) : d_293 n (nI lo) (nI hi) c = some (nM, pI c 145 6 (nI a)) := by
  obtain ⟨h1, h2, h3, h4, h5, h6⟩ := h
  unfold fby at hf
  have hne : ¬ (a < L ∧ lo ≤ b a ∧ b a ≤ hi) := fun z => by
    rw [if_pos z] at hf
    cases hf
  unfold d_293
  rw [h5, h3, h4, show ix (nI a) = a from ix_n (by omega)]
  refine eq_wp (wpt (by decide) (wpj ?_))
  by_cases e : a < L
  · obtain ⟨g1, g2⟩ := h6 a e
    rw [g2, sb_255 g1]
    refine wpf (by simp (disch := first | omega | decide) only [↓neg1, nlit, rI, rL, rI2, rL1, nI_add, pk_mul, sbT, dvT, nmd, ixT, ↓ibT, ltT, ltF, leT, leF, eqT, eqF, nM_ltT, nM_ltF, nM_leT, nM_leF, nM_eqF, nM_eqF', nbT0, nbT1, oI_s, oI_n, natF, natT, nltT, nltF, nleT, nleF, ↓reduceIte, lgc, not_true_eq_false, not_false_eq_true, or_false, false_or, or_true, true_or, and_true, true_and, and_false, false_and, ne_eq, eq_self, or_self, and_self]) (wpt (ib_n (by omega) (by decide)) (wpj ?_))
    by_cases e2 : b a < lo
    · exact wpt (by simp (disch := first | omega | decide) only [↓neg1, nlit, rI, rL, rI2, rL1, nI_add, pk_mul, sbT, dvT, nmd, ixT, ↓ibT, ltT, ltF, leT, leF, eqT, eqF, nM_ltT, nM_ltF, nM_leT, nM_leF, nM_eqF, nM_eqF', nbT0, nbT1, oI_s, oI_n, natF, natT, nltT, nltF, nleT, nleF, ↓reduceIte, lgc, not_true_eq_false, not_false_eq_true, or_false, false_or, or_true, true_or, and_true, true_and, and_false, false_and, ne_eq, eq_self, or_self, and_self]) (wpl rfl)
    · exact wpf (by simp (disch := first | omega | decide) only [↓neg1, nlit, rI, rL, rI2, rL1, nI_add, pk_mul, sbT, dvT, nmd, ixT, ↓ibT, ltT, ltF, leT, leF, eqT, eqF, nM_ltT, nM_ltF, nM_leT, nM_leF, nM_eqF, nM_eqF', nbT0, nbT1, oI_s, oI_n, natF, natT, nltT, nltF, nleT, nleF, ↓reduceIte, lgc, not_true_eq_false, not_false_eq_true, or_false, false_or, or_true, true_or, and_true, true_and, and_false, false_and, ne_eq, eq_self, or_self, and_self]) (wpf (by simp (disch := first | omega | decide) only [↓neg1, nlit, rI, rL, rI2, rL1, nI_add, pk_mul, sbT, dvT, nmd, ixT, ↓ibT, ltT, ltF, leT, leF, eqT, eqF, nM_ltT, nM_ltF, nM_leT, nM_leF, nM_eqF, nM_eqF', nbT0, nbT1, oI_s, oI_n, natF, natT, nltT, nltF, nleT, nleF, ↓reduceIte, lgc, not_true_eq_false, not_false_eq_true, or_false, false_or, or_true, true_or, and_true, true_and, and_false, false_and, ne_eq, eq_self, or_self, and_self]) (wpl rfl))
  · refine wpt (by simp (disch := first | omega | decide) only [↓neg1, nlit, rI, rL, rI2, rL1, nI_add, pk_mul, sbT, dvT, nmd, ixT, ↓ibT, ltT, ltF, leT, leF, eqT, eqF, nM_ltT, nM_ltF, nM_leT, nM_leF, nM_eqF, nM_eqF', nbT0, nbT1, oI_s, oI_n, natF, natT, nltT, nltF, nleT, nleF, ↓reduceIte, lgc, not_true_eq_false, not_false_eq_true, or_false, false_or, or_true, true_or, and_true, true_and, and_false, false_and, ne_eq, eq_self, or_self, and_self]) (wpj (wpt ?_ (wpl rfl)))
    show (-1 : Int32) < nI lo
    exact of_eq_true (nM_ltT (by omega))
theorem FCW_of (h : FCS c b L a) (ha : a ≤ L) : FCW (pI c 145 6 (nI a)) a := ⟨by have := h.2.1; omega, by rw [rI, if_pos ⟨rfl, rfl⟩], a, L, by have := h.2.1; omega, h.2.1, by rw [rI, if_neg (by omega)]; exact h.2.2.1, by rw [rI, if_neg (by omega)]; exact h.2.2.2.1⟩
/-! NAMES -/
def nmL (n : Nat) (v : Int32) (s5 : Int64 × Int32 × cS) : Option ((Int64 × Int32 × cS) ⊕ (Int64 × cS)) :=
    if v ≤ s5.2.1 then
      some (.inr (s5.1, s5.2.2))
    else
      if 0 ≤ (s5.2.2.1 145 6) then
        some (.inr (s5.1, s5.2.2))
      else
        Option.bind (d_293 n 48 122 s5.2.2) (fun r6 =>
        jn (fun p8 : cS =>
          lt (((s5.1 <<< ((8 : Int32).toInt64 &&& 63)) ||| ((r6.1 &&& 255) : Int32).toInt64) : Int64) (fun v10 =>
          lt (s5.2.1 + 1 : Int32) (fun v13 =>
          some (.inl (v10, v13, p8)))))
        (fun j72 =>
        if r6.1 < 0 then
          j72 r6.2
        else
          Option.bind (d_352 n r6.1) (fun v15 =>
          if v15 = 0 then
            jn (fun p16 : Unit =>
              lt (pI r6.2 145 6 ((r6.2.1 145 10) - 1)) (fun c17 =>
              j72 c17))
            (fun j62 =>
            if s5.2.1 = 0 then
              j62 ()
            else
              Option.bind (d_353 n r6.1) (fun v19 =>
              if v19 = 0 then
                j62 ()
              else
                j72 r6.2))
          else
            j72 r6.2)))
theorem d295_s : d_295 n c = Option.bind (d_293 n 1 8 c) (fun r1 => Option.bind (whl (nmL n r1.1) n (0, 0, r1.2)) (fun x20 : Int64 × cS => some (x20.1, x20.2))) := rfl
theorem lx_in {v : Nat} (h : lxL v = true ∨ lxD v = true) : 48 ≤ v ∧ v ≤ 122 := by
  unfold lxL lxD at h
  simp at h
  omega
theorem nmL_w {v : Int64} {k r : Nat} (hr : k + r ≤ 8) (hm : 0 < a) (h : FCW d w) : whl (nmL n (nI (k + r))) a (v, nI k, d) = some (v, d) := by
  obtain ⟨y, rfl⟩ : ∃ y, a = y + 1 := ⟨a - 1, by omega⟩
  refine whl_out ?_
  unfold nmL
  dsimp only
  rw [h.2.1]
  exact eq_wp (wpi (fun _ => rfl) (fun _ => wpt (nI_le (a := 0) (by omega) (by have := h.1; omega)) rfl))
theorem nm_lp (h : FCS c b L a) : ∀ (r k a' m : Nat) (v : Int64), k + r ≤ 8 → a' ≤ L → r + 1 < m → (∀ p, fNl b L r k a' v = .inr p → whl (nmL n (nI (k + r))) m (v, nI k, pI c 145 10 (nI a')) = some (p.1, pI c 145 10 (nI p.2))) ∧ (∀ w, fNl b L r k a' v = .inl w → ∃ v' d, whl (nmL n (nI (k + r))) m (v, nI k, pI c 145 10 (nI a')) = some (v', d) ∧ FCW d w ∧ sx q145f c d)
  | 0, k, a', m, v, hk, ha, hm => by
    obtain ⟨y, rfl⟩ : ∃ y, m = y + 1 := ⟨m - 1, by omega⟩
    refine ⟨fun p hp => ?_, fun w hw => by cases hw⟩
    cases hp
    refine whl_out ?_
    unfold nmL
    dsimp only
    exact eq_wp (wpt (by simp (disch := first | omega | decide) only [↓neg1, nlit, rI, rL, rI2, rL1, nI_add, pk_mul, sbT, dvT, nmd, ixT, ↓ibT, ltT, ltF, leT, leF, eqT, eqF, nM_ltT, nM_ltF, nM_leT, nM_leF, nM_eqF, nM_eqF', nbT0, nbT1, oI_s, oI_n, natF, natT, nltT, nltF, nleT, nleF, ↓reduceIte, lgc, not_true_eq_false, not_false_eq_true, or_false, false_or, or_true, true_or, and_true, true_and, and_false, false_and, ne_eq, eq_self, or_self, and_self]) rfl)
  | r + 1, k, a', m, v, hk, ha, hm => by
    obtain ⟨y, rfl⟩ : ∃ y, m = y + 1 := ⟨m - 1, by omega⟩
    have h' := FCS_at h ha
    have hL := h.2.1
    obtain ⟨c1, hc1⟩ : ∃ c1, c1 = pI c 145 10 (nI a') := ⟨_, rfl⟩
    rw [← hc1] at h' ⊢
    have s1 : sx q145f c c1 := by
      rw [hc1]
      exact sx_pI sx_rfl (by decide)
    have h6 : c1.1 145 6 = nM := h'.2.2.2.2.1
    have ih := nm_lp h r (k + 1) (a' + 1) y ((v <<< ((8 : Int32).toInt64 &&& 63)) ||| (nI (b a')).toInt64) (by omega)
    rw [show k + 1 + r = k + (r + 1) by omega] at ih
    -- one time round
    have step : ∀ {q : (Int64 × Int32 × cS) ⊕ (Int64 × cS)}, wp (Option.bind (d_293 n 48 122 c1) (fun r6 =>
        jn (fun p8 : cS =>
          lt (((v <<< ((8 : Int32).toInt64 &&& 63)) ||| ((r6.1 &&& 255) : Int32).toInt64) : Int64) (fun v10 =>
          lt (nI k + 1 : Int32) (fun v13 =>
          some (.inl (v10, v13, p8)))))
        (fun j72 =>
        if r6.1 < 0 then
          j72 r6.2
        else
          Option.bind (d_352 n r6.1) (fun v15 =>
          if v15 = 0 then
            jn (fun p16 : Unit =>
              lt (pI r6.2 145 6 ((r6.2.1 145 10) - 1)) (fun c17 =>
              j72 c17))
            (fun j62 =>
            if nI k = 0 then
              j62 ()
            else
              Option.bind (d_353 n r6.1) (fun v19 =>
              if v19 = 0 then
                j62 ()
              else
                j72 r6.2))
          else
            j72 r6.2)))) (fun z => z = q) → nmL n (nI (k + (r + 1))) (v, nI k, c1) = some q := fun {q} y => by
      unfold nmL
      dsimp only
      rw [h6]
      exact eq_wp (wpf (by simp (disch := first | omega | decide) only [↓neg1, nlit, rI, rL, rI2, rL1, nI_add, pk_mul, sbT, dvT, nmd, ixT, ↓ibT, ltT, ltF, leT, leF, eqT, eqF, nM_ltT, nM_ltF, nM_leT, nM_leF, nM_eqF, nM_eqF', nbT0, nbT1, oI_s, oI_n, natF, natT, nltT, nltF, nleT, nleF, ↓reduceIte, lgc, not_true_eq_false, not_false_eq_true, or_false, false_or, or_true, true_or, and_true, true_and, and_false, false_and, ne_eq, eq_self, or_self, and_self]) (wpf (by decide) y))
    by_cases e : a' < L ∧ 48 ≤ b a' ∧ b a' ≤ 122
    · have hf : fby b L 48 122 a' = some (b a') := if_pos e
      have hb := (h'.2.2.2.2.2 a' e.1).1
      have h293 := e293s (n := n) h' hf (by decide)
      rw [hc1, pI_pI] at h293
      rw [← hc1] at h293
      have an : nI (b a') &&& 255 = nI (b a') := an255 hb
      by_cases e2 : lxL (b a') = true ∨ (k ≠ 0 ∧ lxD (b a') = true)
      · have hst : nmL n (nI (k + (r + 1))) (v, nI k, c1) = some (.inl ((v <<< ((8 : Int32).toInt64 &&& 63)) ||| (nI (b a')).toInt64, nI (k + 1), pI c 145 10 (nI (a' + 1)))) := by
          refine step (wpe h293 (wpj (wpf (nI_pos (by omega)) (wpe (e352n hb) ?_))))
          dsimp only
          rw [an, nI_1]
          by_cases e3 : lxL (b a') = true
          · rw [if_pos e3]
            exact wpf (by decide) (wpl (wpl rfl))
          · rw [if_neg e3]
            have hk0 : k ≠ 0 ∧ lxD (b a') = true := by
              rcases e2 with z | z
              · exact absurd z e3
              · exact z
            refine wpt rfl (wpj (wpf (fun z => hk0.1 ((nI_eq (by omega) (by decide)).mp (show _ = nI 0 from z))) (wpe (e353n hb) ?_)))
            rw [if_pos hk0.2]
            exact wpf (by decide) (wpl (wpl rfl))
        have hfn : fNl b L (r + 1) k a' v = fNl b L r (k + 1) (a' + 1) ((v <<< ((8 : Int32).toInt64 &&& 63)) ||| (nI (b a')).toInt64) := by
          show (if _ then _ else _) = _
          rw [if_pos ⟨e.1, e2⟩]
        rw [hfn, whl_in hst]
        exact ih (by omega) (by omega)
      · have hfn : fNl b L (r + 1) k a' v = .inl a' := by
          show (if _ then _ else _) = _
          rw [if_neg (fun z => e2 z.2)]
        rw [hfn]
        refine ⟨fun p hp => (by cases hp), fun w hw => ?_⟩
        cases hw
        have hW : FCW (pI (pI c 145 10 (nI (a' + 1))) 145 6 (nI a')) a' := ⟨by omega, by rw [rI, if_pos ⟨rfl, rfl⟩], a' + 1, L, by omega, hL, by rw [rI, if_neg (by omega), rI, if_pos ⟨rfl, rfl⟩], by rw [rI, if_neg (by omega), rI, if_neg (by omega)]; exact h.2.2.2.1⟩
        have hst : nmL n (nI (k + (r + 1))) (v, nI k, c1) = some (.inl ((v <<< ((8 : Int32).toInt64 &&& 63)) ||| (nI (b a')).toInt64, nI (k + 1), pI (pI c 145 10 (nI (a' + 1))) 145 6 (nI a'))) := by
          have e10 : (pI c 145 10 (nI (a' + 1))).1 145 10 - 1 = nI a' := by
            rw [rI, if_pos ⟨rfl, rfl⟩]
            exact pk_sub (b := 1) (by omega)
          refine step (wpe h293 (wpj (wpf (nI_pos (by omega)) (wpe (e352n hb) ?_))))
          dsimp only
          rw [an, nI_1, if_neg (fun z => e2 (Or.inl z)), e10]
          refine wpt rfl (wpj ?_)
          by_cases e3 : k = 0
          · exact wpt (by rw [e3]; rfl) (wpl (wpl (wpl rfl)))
          · refine wpf (fun z => e3 ((nI_eq (by omega) (by decide)).mp (show _ = nI 0 from z))) (wpe (e353n hb) ?_)
            rw [if_neg (fun z => e2 (Or.inr ⟨e3, z⟩))]
            exact wpt rfl (wpl (wpl (wpl rfl)))
        refine ⟨(v <<< ((8 : Int32).toInt64 &&& 63)) ||| (nI (b a')).toInt64, _, (whl_in hst).trans ?_, hW, sx_pI (sx_pI sx_rfl (by decide)) (by decide)⟩
        rw [show k + (r + 1) = k + 1 + r by omega]
        exact nmL_w (by omega) (by omega) hW
    · have hfn : fNl b L (r + 1) k a' v = .inl a' := by
        show (if _ then _ else _) = _
        refine if_neg (fun z => e ⟨z.1, lx_in ?_⟩)
        rcases z.2 with y | y
        · exact Or.inl y
        · exact Or.inr y.2
      rw [hfn]
      refine ⟨fun p hp => (by cases hp), fun w hw => ?_⟩
      cases hw
      have h293 := e293n (n := n) h' (show fby b L 48 122 a' = none from if_neg e) (by decide) (by decide)
      have hW := FCW_of h' ha
      have hst : nmL n (nI (k + (r + 1))) (v, nI k, c1) = some (.inl ((v <<< ((8 : Int32).toInt64 &&& 63)) ||| ((nM &&& 255) : Int32).toInt64, nI (k + 1), pI c1 145 6 (nI a'))) := by
        refine step (wpe h293 (wpj (wpt (show nM < 0 by decide) (wpl (wpl ?_)))))
        rw [nI_1]
        rfl
      refine ⟨(v <<< ((8 : Int32).toInt64 &&& 63)) ||| ((nM &&& 255) : Int32).toInt64, _, (whl_in hst).trans ?_, hW, sx_pI s1 (by decide)⟩
      rw [show k + (r + 1) = k + 1 + r by omega]
      exact nmL_w (by omega) (by omega) hW
theorem e295s {p : Int64 × Nat} (hn : 100 ≤ n) (h : FCS c b L a) (hf : fNm b L a = .inr p) : d_295 n c = some (p.1, pI c 145 10 (nI p.2)) := by
  unfold fNm at hf
  cases e : fby b L 1 8 a with
  | none =>
    rw [e] at hf
    cases hf
  | some k =>
    rw [e] at hf
    dsimp only at hf
    have hk := fby_some e
    have := (nm_lp (n := n) h k 0 (a + 1) n 0 (by omega) (by omega) (by omega)).1 p hf
    rw [Nat.zero_add] at this
    rw [d295_s]
    exact eq_wp (wpe (e293s h e (by decide)) (wpe this rfl))
theorem e295n (hn : 100 ≤ n) (h : FCS c b L a) (hf : fNm b L a = .inl w) : ∃ v d, d_295 n c = some (v, d) ∧ FCW d w ∧ sx q145f c d := by
  unfold fNm at hf
  cases e : fby b L 1 8 a with
  | none =>
    rw [e] at hf
    cases hf
    have hW := FCW_of h h.1
    refine ⟨0, pI c 145 6 (nI a), ?_, hW, sx_pI sx_rfl (by decide)⟩
    rw [d295_s]
    refine eq_wp (wpe (e293n h e (by decide) (by decide)) ?_)
    obtain ⟨y, hy⟩ : ∃ y, n = y + 1 := ⟨n - 1, by omega⟩
    have : whl (nmL n nM) (y + 1) (0, 0, pI c 145 6 (nI a)) = some (0, pI c 145 6 (nI a)) := whl_out (by
      unfold nmL
      dsimp only
      exact eq_wp (wpt (by decide) rfl))
    rw [← hy] at this
    exact wpe this rfl
  | some k =>
    rw [e] at hf
    dsimp only at hf
    have hk := fby_some e
    obtain ⟨v', d, h1, h2, h3⟩ := (nm_lp (n := n) h k 0 (a + 1) n 0 (by omega) (by omega) (by omega)).2 w hf
    rw [Nat.zero_add] at h1
    refine ⟨v', d, ?_, h2, h3⟩
    rw [d295_s]
    exact eq_wp (wpe (e293s h e (by decide)) (wpe h1 rfl))
theorem e295w (hn : 100 ≤ n) (h : FCW c w) : d_295 n c = some (0, c) := by
  rw [d295_s]
  refine eq_wp (wpe (e293w h) ?_)
  obtain ⟨y, hy⟩ : ∃ y, n = y + 1 := ⟨n - 1, by omega⟩
  have : whl (nmL n nM) (y + 1) (0, 0, c) = some (0, c) := whl_out (by
    unfold nmL
    dsimp only
    exact eq_wp (wpt (by decide) rfl))
  rw [← hy] at this
  exact wpe this rfl
end FLCS
