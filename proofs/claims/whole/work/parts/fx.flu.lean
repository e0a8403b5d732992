/-! A FILE: the reference reads NAMES and values -/
section FLUS
variable {n a L w lo hi x K : Nat} {b : Nat → Nat} {u d e0 : cS}
def FUS (u : cS) (b : Nat → Nat) (L a : Nat) : Prop := a ≤ L ∧ L ≤ 4000 ∧ u.1 174 80 = nI a ∧ u.1 174 81 = nI L ∧ u.1 174 82 = nI 0 ∧ ∀ j, j < L → b j < 256 ∧ u.1 175 j = nI (b j)
def FUW (u : cS) (w : Nat) : Prop := w ≤ 4000 ∧ u.1 174 82 = nI 1 ∧ u.1 174 80 = nI w
def q80 (A l : Nat) : Bool := decide (A = 174 ∧ (l = 80 ∨ l = 82))
theorem FUS_at {a' : Nat} (h : FUS u b L a) (ha : a' ≤ L) : FUS (pI u 174 80 (nI a')) b L a' := by
  obtain ⟨h1, h2, h3, h4, h5, h6⟩ := h
  exact ⟨ha, h2, by rw [rI, if_pos ⟨rfl, rfl⟩], by rw [rI, if_neg (by omega)]; exact h4, by rw [rI, if_neg (by omega)]; exact h5, fun j hj => by rw [rI, if_neg (by omega)]; exact h6 j hj⟩
theorem FUS_self (h : FUS u b L a) : pI u 174 80 (nI a) = u := pI_self h.2.2.1
theorem ne82 (h : FUW u w) : ¬ u.1 174 82 = 0 := by
  rw [h.2.1]
  decide
theorem e433w {x y : Int32} (h : FUW u w) : d_433 n x y u = some (0, u) := by
  unfold d_433
  exact eq_wp (wpf (ne82 h) rfl)
theorem e433s (h : FUS u b L a) (hf : fby b L lo hi a = some x) (hh : hi < 256) : d_433 n (nI lo) (nI hi) u = some (nI x, pI u 174 80 (nI (a + 1))) := by
  obtain ⟨h1, h2, h3, h4, h5, h6⟩ := h
  obtain ⟨f1, f2, f3, f4⟩ := fby_some hf
  obtain ⟨g1, g2⟩ := h6 a f1
  have ei : ix (nI a) = a := ix_n (by omega)
  have hii : ib (nI a) 4000 := ib_n (by omega) (by decide)
  unfold d_433
  rw [h3, h4, ei, g2, ← f4, nI_1]
  refine eq_wp (wpt h5 (wpj (wpf (by simp (disch := first | omega | decide) only [↓neg1, nlit, rI, rL, rI2, rL1, nI_add, pk_mul, sbT, dvT, nmd, ixT, ↓ibT, ltT, ltF, leT, leF, eqT, eqF, nM_ltT, nM_ltF, nM_leT, nM_leF, nM_eqF, nM_eqF', nbT0, nbT1, oI_s, oI_n, natF, natT, nltT, nltF, nleT, nleF, ↓reduceIte, lgc, not_true_eq_false, not_false_eq_true, or_false, false_or, or_true, true_or, and_true, true_and, and_false, false_and, ne_eq, eq_self, or_self, and_self]) (wpt hii (wpf (by simp (disch := first | omega | decide) only [↓neg1, nlit, rI, rL, rI2, rL1, nI_add, pk_mul, sbT, dvT, nmd, ixT, ↓ibT, ltT, ltF, leT, leF, eqT, eqF, nM_ltT, nM_ltF, nM_leT, nM_leF, nM_eqF, nM_eqF', nbT0, nbT1, oI_s, oI_n, natF, natT, nltT, nltF, nleT, nleF, ↓reduceIte, lgc, not_true_eq_false, not_false_eq_true, or_false, false_or, or_true, true_or, and_true, true_and, and_false, false_and, ne_eq, eq_self, or_self, and_self]) (wpt hii (wpt (by simp (disch := first | omega | decide) only [↓neg1, nlit, rI, rL, rI2, rL1, nI_add, pk_mul, sbT, dvT, nmd, ixT, ↓ibT, ltT, ltF, leT, leF, eqT, eqF, nM_ltT, nM_ltF, nM_leT, nM_leF, nM_eqF, nM_eqF', nbT0, nbT1, oI_s, oI_n, natF, natT, nltT, nltF, nleT, nleF, ↓reduceIte, lgc, not_true_eq_false, not_false_eq_true, or_false, false_or, or_true, true_or, and_true, true_and, and_false, false_and, ne_eq, eq_self, or_self, and_self]) (wpl ?_))))))))
  have e80 : (pI u 174 80 (nI (a + 1))).1 174 80 - 1 = nI a := by
    rw [rI, if_pos ⟨rfl, rfl⟩]
    exact pk_sub (b := 1) (by omega)
  rw [e80, ei, show (pI u 174 80 (nI (a + 1))).1 175 a = nI x by rw [rI, if_neg (by omega), g2, f4]]
  exact wpt hii rfl
theorem e433n (h : FUS u b L a) (hf : fby b L lo hi a = none) (hl : lo < 256) (hh : hi < 256) : d_433 n (nI lo) (nI hi) u = some (0, pI u 174 82 (nI 1)) ∧ FUW (pI u 174 82 (nI 1)) a := by
  obtain ⟨h1, h2, h3, h4, h5, h6⟩ := h
  unfold fby at hf
  have hne : ¬ (a < L ∧ lo ≤ b a ∧ b a ≤ hi) := fun z => by
    rw [if_pos z] at hf
    cases hf
  have ei : ix (nI a) = a := ix_n (by omega)
  refine ⟨?_, by omega, by rw [rI, if_pos ⟨rfl, rfl⟩], by rw [rI, if_neg (by omega)]; exact h3⟩
  unfold d_433
  rw [h3, h4, ei]
  refine eq_wp (wpt h5 (wpj ?_))
  by_cases e : a < L
  · have hii : ib (nI a) 4000 := ib_n (by omega) (by decide)
    obtain ⟨g1, g2⟩ := h6 a e
    rw [g2]
    refine wpf (by simp (disch := first | omega | decide) only [↓neg1, nlit, rI, rL, rI2, rL1, nI_add, pk_mul, sbT, dvT, nmd, ixT, ↓ibT, ltT, ltF, leT, leF, eqT, eqF, nM_ltT, nM_ltF, nM_leT, nM_leF, nM_eqF, nM_eqF', nbT0, nbT1, oI_s, oI_n, natF, natT, nltT, nltF, nleT, nleF, ↓reduceIte, lgc, not_true_eq_false, not_false_eq_true, or_false, false_or, or_true, true_or, and_true, true_and, and_false, false_and, ne_eq, eq_self, or_self, and_self]) (wpt hii ?_)
    by_cases e2 : b a < lo
    · exact wpt (by simp (disch := first | omega | decide) only [↓neg1, nlit, rI, rL, rI2, rL1, nI_add, pk_mul, sbT, dvT, nmd, ixT, ↓ibT, ltT, ltF, leT, leF, eqT, eqF, nM_ltT, nM_ltF, nM_leT, nM_leF, nM_eqF, nM_eqF', nbT0, nbT1, oI_s, oI_n, natF, natT, nltT, nltF, nleT, nleF, ↓reduceIte, lgc, not_true_eq_false, not_false_eq_true, or_false, false_or, or_true, true_or, and_true, true_and, and_false, false_and, ne_eq, eq_self, or_self, and_self]) (wpl rfl)
    · exact wpf (by simp (disch := first | omega | decide) only [↓neg1, nlit, rI, rL, rI2, rL1, nI_add, pk_mul, sbT, dvT, nmd, ixT, ↓ibT, ltT, ltF, leT, leF, eqT, eqF, nM_ltT, nM_ltF, nM_leT, nM_leF, nM_eqF, nM_eqF', nbT0, nbT1, oI_s, oI_n, natF, natT, nltT, nltF, nleT, nleF, ↓reduceIte, lgc, not_true_eq_false, not_false_eq_true, or_false, false_or, or_true, true_or, and_true, true_and, and_false, false_and, ne_eq, eq_self, or_self, and_self]) (wpt hii (wpf (by simp (disch := first | omega | decide) only [↓neg1, nlit, rI, rL, rI2, rL1, nI_add, pk_mul, sbT, dvT, nmd, ixT, ↓ibT, ltT, ltF, leT, leF, eqT, eqF, nM_ltT, nM_ltF, nM_leT, nM_leF, nM_eqF, nM_eqF', nbT0, nbT1, oI_s, oI_n, natF, natT, nltT, nltF, nleT, nleF, ↓reduceIte, lgc, not_true_eq_false, not_false_eq_true, or_false, false_or, or_true, true_or, and_true, true_and, and_false, false_and, ne_eq, eq_self, or_self, and_self]) (wpl rfl)))
  · exact wpt (by rw [show a = L by omega]) (wpl rfl)
/-! NAMES -/
def nuL (n : Nat) (v : Int32) (s5 : Int64 × Int32 × cS) : Option ((Int64 × Int32 × cS) ⊕ (Int64 × cS)) :=
    if v ≤ s5.2.1 then
      some (.inr (s5.1, s5.2.2))
    else
      if (s5.2.2.1 174 82) = 0 then
        Option.bind (d_433 n 0 255 s5.2.2) (fun r6 =>
        jn (fun p8 : cS =>
          lt (((s5.1 <<< ((8 : Int32).toInt64 &&& 63)) ||| (r6.1 : Int32).toInt64) : Int64) (fun v10 =>
          lt (s5.2.1 + 1 : Int32) (fun v13 =>
          some (.inl (v10, v13, p8)))))
        (fun j79 =>
        if (r6.2.1 174 82) = 0 then
          Option.bind (d_367 n r6.1) (fun v15 =>
          if v15 = 0 then
            jn (fun p16 : Unit =>
              lt (pI r6.2 174 82 1) (fun c17 =>
              lt (pI c17 174 80 ((c17.1 174 80) - 1)) (fun c19 =>
              j79 c19)))
            (fun j64 =>
            if s5.2.1 = 0 then
              j64 ()
            else
              Option.bind (d_368 n r6.1) (fun v21 =>
              if v21 = 0 then
                j64 ()
              else
                j79 r6.2))
          else
            j79 r6.2)
        else
          j79 r6.2))
      else
        some (.inr (s5.1, s5.2.2))
theorem d434_s : d_434 n u = Option.bind (d_433 n 1 8 u) (fun r1 => Option.bind (whl (nuL n r1.1) n (0, 0, r1.2)) (fun x22 : Int64 × cS => some (x22.1, x22.2))) := rfl
theorem nuL_w {v : Int64} {k : Nat} {x : Int32} (hm : 0 < a) (h : FUW d w) : whl (nuL n x) a (v, nI k, d) = some (v, d) := by
  obtain ⟨y, rfl⟩ : ∃ y, a = y + 1 := ⟨a - 1, by omega⟩
  refine whl_out ?_
  unfold nuL
  dsimp only
  exact eq_wp (wpi (fun _ => rfl) (fun _ => wpf (ne82 h) rfl))
theorem nu_lp (h : FUS u b L a) : ∀ (r k a' m : Nat) (v : Int64), k + r ≤ 8 → a' ≤ L → r + 1 < m → (∀ p, fNl b L r k a' v = .inr p → whl (nuL n (nI (k + r))) m (v, nI k, pI u 174 80 (nI a')) = some (p.1, pI u 174 80 (nI p.2))) ∧ (∀ w, fNl b L r k a' v = .inl w → ∃ v' d, whl (nuL n (nI (k + r))) m (v, nI k, pI u 174 80 (nI a')) = some (v', d) ∧ FUW d w ∧ sx q80 u d)
  | 0, k, a', m, v, hk, ha, hm => by
    obtain ⟨y, rfl⟩ : ∃ y, m = y + 1 := ⟨m - 1, by omega⟩
    refine ⟨fun p hp => ?_, fun w hw => by cases hw⟩
    cases hp
    refine whl_out ?_
    unfold nuL
    dsimp only
    exact eq_wp (wpt (by simp (disch := first | omega | decide) only [↓neg1, nlit, rI, rL, rI2, rL1, nI_add, pk_mul, sbT, dvT, nmd, ixT, ↓ibT, ltT, ltF, leT, leF, eqT, eqF, nM_ltT, nM_ltF, nM_leT, nM_leF, nM_eqF, nM_eqF', nbT0, nbT1, oI_s, oI_n, natF, natT, nltT, nltF, nleT, nleF, ↓reduceIte, lgc, not_true_eq_false, not_false_eq_true, or_false, false_or, or_true, true_or, and_true, true_and, and_false, false_and, ne_eq, eq_self, or_self, and_self]) rfl)
  | r + 1, k, a', m, v, hk, ha, hm => by
    obtain ⟨y, rfl⟩ : ∃ y, m = y + 1 := ⟨m - 1, by omega⟩
    have h' := FUS_at h ha
    have hL := h.2.1
    obtain ⟨c1, hc1⟩ : ∃ c1, c1 = pI u 174 80 (nI a') := ⟨_, rfl⟩
    rw [← hc1] at h' ⊢
    have s1 : sx q80 u c1 := by
      rw [hc1]
      exact sx_pI sx_rfl (by decide)
    have h6 : c1.1 174 82 = nI 0 := h'.2.2.2.2.1
    have ih := nu_lp h r (k + 1) (a' + 1) y ((v <<< ((8 : Int32).toInt64 &&& 63)) ||| (nI (b a')).toInt64) (by omega)
    rw [show k + 1 + r = k + (r + 1) by omega] at ih
    have step : ∀ {q : (Int64 × Int32 × cS) ⊕ (Int64 × cS)}, wp (Option.bind (d_433 n 0 255 c1) (fun r6 =>
        jn (fun p8 : cS =>
          lt (((v <<< ((8 : Int32).toInt64 &&& 63)) ||| (r6.1 : Int32).toInt64) : Int64) (fun v10 =>
          lt (nI k + 1 : Int32) (fun v13 =>
          some (.inl (v10, v13, p8)))))
        (fun j79 =>
        if (r6.2.1 174 82) = 0 then
          Option.bind (d_367 n r6.1) (fun v15 =>
          if v15 = 0 then
            jn (fun p16 : Unit =>
              lt (pI r6.2 174 82 1) (fun c17 =>
              lt (pI c17 174 80 ((c17.1 174 80) - 1)) (fun c19 =>
              j79 c19)))
            (fun j64 =>
            if nI k = 0 then
              j64 ()
            else
              Option.bind (d_368 n r6.1) (fun v21 =>
              if v21 = 0 then
                j64 ()
              else
                j79 r6.2))
          else
            j79 r6.2)
        else
          j79 r6.2))) (fun z => z = q) → nuL n (nI (k + (r + 1))) (v, nI k, c1) = some q := fun {q} y => by
      unfold nuL
      dsimp only
      exact eq_wp (wpf (by simp (disch := first | omega | decide) only [↓neg1, nlit, rI, rL, rI2, rL1, nI_add, pk_mul, sbT, dvT, nmd, ixT, ↓ibT, ltT, ltF, leT, leF, eqT, eqF, nM_ltT, nM_ltF, nM_leT, nM_leF, nM_eqF, nM_eqF', nbT0, nbT1, oI_s, oI_n, natF, natT, nltT, nltF, nleT, nleF, ↓reduceIte, lgc, not_true_eq_false, not_false_eq_true, or_false, false_or, or_true, true_or, and_true, true_and, and_false, false_and, ne_eq, eq_self, or_self, and_self]) (wpt h6 y))
    by_cases e : a' < L
    · have hb := (h'.2.2.2.2.2 a' e).1
      have hf : fby b L 0 255 a' = some (b a') := if_pos ⟨e, by omega, by omega⟩
      have h433 := e433s (n := n) h' hf (by decide)
      rw [hc1, pI_pI] at h433
      rw [← hc1] at h433
      have e82 : (pI u 174 80 (nI (a' + 1))).1 174 82 = nI 0 := by
        rw [rI, if_neg (by omega)]
        exact h.2.2.2.2.1
      by_cases e2 : lxL (b a') = true ∨ (k ≠ 0 ∧ lxD (b a') = true)
      · have hst : nuL n (nI (k + (r + 1))) (v, nI k, c1) = some (.inl ((v <<< ((8 : Int32).toInt64 &&& 63)) ||| (nI (b a')).toInt64, nI (k + 1), pI u 174 80 (nI (a' + 1)))) := by
          refine step (wpe h433 (wpj (wpt e82 (wpe (e367n hb) ?_))))
          dsimp only
          rw [nI_1]
          by_cases e3 : lxL (b a') = true
          · rw [if_pos e3]
            exact wpf (by decide) (wpl (wpl rfl))
          · rw [if_neg e3]
            have hk0 : k ≠ 0 ∧ lxD (b a') = true := by
              rcases e2 with z | z
              · exact absurd z e3
              · exact z
            refine wpt rfl (wpj (wpf (fun z => hk0.1 ((nI_eq (by omega) (by decide)).mp (show _ = nI 0 from z))) (wpe (e368n hb) ?_)))
            rw [if_pos hk0.2]
            exact wpf (by decide) (wpl (wpl rfl))
        have hfn : fNl b L (r + 1) k a' v = fNl b L r (k + 1) (a' + 1) ((v <<< ((8 : Int32).toInt64 &&& 63)) ||| (nI (b a')).toInt64) := by
          show (if _ then _ else _) = _
          rw [if_pos ⟨e, e2⟩]
        rw [hfn, whl_in hst]
        exact ih (by omega) (by omega)
      · have hfn : fNl b L (r + 1) k a' v = .inl a' := by
          show (if _ then _ else _) = _
          rw [if_neg (fun z => e2 z.2)]
        rw [hfn]
        refine ⟨fun p hp => (by cases hp), fun w hw => ?_⟩
        cases hw
        have e10 : (pI (pI u 174 80 (nI (a' + 1))) 174 82 1).1 174 80 - 1 = nI a' := by
          rw [rI, if_neg (by omega), rI, if_pos ⟨rfl, rfl⟩]
          exact pk_sub (b := 1) (by omega)
        have hW : FUW (pI (pI (pI u 174 80 (nI (a' + 1))) 174 82 1) 174 80 (nI a')) a' := ⟨by omega, by rw [rI, if_neg (by omega), rI, if_pos ⟨rfl, rfl⟩]; rfl, by rw [rI, if_pos ⟨rfl, rfl⟩]⟩
        have hst : nuL n (nI (k + (r + 1))) (v, nI k, c1) = some (.inl ((v <<< ((8 : Int32).toInt64 &&& 63)) ||| (nI (b a')).toInt64, nI (k + 1), pI (pI (pI u 174 80 (nI (a' + 1))) 174 82 1) 174 80 (nI a'))) := by
          refine step (wpe h433 (wpj (wpt e82 (wpe (e367n hb) ?_))))
          dsimp only
          rw [nI_1, if_neg (fun z => e2 (Or.inl z))]
          refine wpt rfl (wpj ?_)
          by_cases e3 : k = 0
          · refine wpt (by rw [e3]; rfl) (wpl ?_)
            rw [e10]
            exact wpl (wpl (wpl rfl))
          · refine wpf (fun z => e3 ((nI_eq (by omega) (by decide)).mp (show _ = nI 0 from z))) (wpe (e368n hb) ?_)
            rw [if_neg (fun z => e2 (Or.inr ⟨e3, z⟩))]
            refine wpt rfl (wpl ?_)
            rw [e10]
            exact wpl (wpl (wpl rfl))
        exact ⟨_, _, (whl_in hst).trans (nuL_w (by omega) hW), hW, sx_pI (sx_pI (sx_pI sx_rfl (by decide)) (by decide)) (by decide)⟩
    · have hfn : fNl b L (r + 1) k a' v = .inl a' := by
        show (if _ then _ else _) = _
        exact if_neg (fun z => e z.1)
      rw [hfn]
      refine ⟨fun p hp => (by cases hp), fun w hw => ?_⟩
      cases hw
      obtain ⟨h433, hW⟩ := e433n (n := n) h' (show fby b L 0 255 a' = none from if_neg (fun z => e z.1)) (by decide) (by decide)
      have hst : nuL n (nI (k + (r + 1))) (v, nI k, c1) = some (.inl ((v <<< ((8 : Int32).toInt64 &&& 63)) ||| (0 : Int32).toInt64, nI (k + 1), pI c1 174 82 (nI 1))) := by
        refine step (wpe h433 (wpj (wpf (ne82 hW) (wpl (wpl ?_)))))
        rw [nI_1]
        rfl
      exact ⟨_, _, (whl_in hst).trans (nuL_w (by omega) hW), hW, sx_pI s1 (by decide)⟩
theorem e434s {p : Int64 × Nat} (hn : 100 ≤ n) (h : FUS u b L a) (hf : fNm b L a = .inr p) : d_434 n u = some (p.1, pI u 174 80 (nI p.2)) := by
  unfold fNm at hf
  cases e : fby b L 1 8 a with
  | none =>
    rw [e] at hf
    cases hf
  | some k =>
    rw [e] at hf
    dsimp only at hf
    have hk := fby_some e
    have := (nu_lp (n := n) h k 0 (a + 1) n 0 (by omega) (by omega) (by omega)).1 p hf
    rw [Nat.zero_add] at this
    rw [d434_s]
    exact eq_wp (wpe (e433s h e (by decide)) (wpe this rfl))
theorem e434n (hn : 100 ≤ n) (h : FUS u b L a) (hf : fNm b L a = .inl w) : ∃ v d, d_434 n u = some (v, d) ∧ FUW d w ∧ sx q80 u d := by
  unfold fNm at hf
  cases e : fby b L 1 8 a with
  | none =>
    rw [e] at hf
    cases hf
    obtain ⟨h433, hW⟩ := e433n (n := n) h e (by decide) (by decide)
    refine ⟨0, pI u 174 82 (nI 1), ?_, hW, sx_pI sx_rfl (by decide)⟩
    rw [d434_s]
    exact eq_wp (wpe h433 (wpe (nuL_w (k := 0) (by omega) hW) rfl))
  | some k =>
    rw [e] at hf
    dsimp only at hf
    have hk := fby_some e
    obtain ⟨v', d, h1, h2, h3⟩ := (nu_lp (n := n) h k 0 (a + 1) n 0 (by omega) (by omega) (by omega)).2 w hf
    rw [Nat.zero_add] at h1
    refine ⟨v', d, ?_, h2, h3⟩
    rw [d434_s]
    exact eq_wp (wpe (e433s h e (by decide)) (wpe h1 rfl))
theorem e434w (hn : 100 ≤ n) (h : FUW u w) : d_434 n u = some (0, u) := by
  rw [d434_s]
  exact eq_wp (wpe (e433w h) (wpe (nuL_w (k := 0) (by omega) h) rfl))
/-! texts -/
def tuL (n : Nat) (v : Int32) (s5 : Int64 × Int32 × cS) : Option ((Int64 × Int32 × cS) ⊕ (Int64 × cS)) :=
    if v ≤ s5.2.1 then
      some (.inr (s5.1, s5.2.2))
    else
      if (s5.2.2.1 174 82) = 0 then
        Option.bind (d_433 n 32 126 s5.2.2) (fun r6 =>
        jn (fun p8 : cS =>
          lt (((s5.1 <<< ((8 : Int32).toInt64 &&& 63)) ||| (r6.1 : Int32).toInt64) : Int64) (fun v10 =>
          lt (s5.2.1 + 1 : Int32) (fun v13 =>
          some (.inl (v10, v13, p8)))))
        (fun j65 =>
        if (r6.2.1 174 82) = 0 then
          if r6.1 = 39 then
            lt (pI r6.2 174 82 1) (fun c15 =>
            lt (pI c15 174 80 ((c15.1 174 80) - 1)) (fun c17 =>
            j65 c17))
          else
            j65 r6.2
        else
          j65 r6.2))
      else
        some (.inr (s5.1, s5.2.2))
theorem d435_s : d_435 n u = Option.bind (d_433 n 0 8 u) (fun r1 => Option.bind (whl (tuL n r1.1) n (0, 0, r1.2)) (fun x19 : Int64 × cS => some (x19.1, x19.2))) := rfl
theorem tuL_w {v : Int64} {k : Nat} {x : Int32} (hm : 0 < a) (h : FUW d w) : whl (tuL n x) a (v, nI k, d) = some (v, d) := by
  obtain ⟨y, rfl⟩ : ∃ y, a = y + 1 := ⟨a - 1, by omega⟩
  refine whl_out ?_
  unfold tuL
  dsimp only
  exact eq_wp (wpi (fun _ => rfl) (fun _ => wpf (ne82 h) rfl))
theorem tu_lp (h : FUS u b L a) : ∀ (r k a' m : Nat) (v : Int64), k + r ≤ 8 → a' ≤ L → r + 1 < m → (∀ p, fTl b L r a' v = .inr p → whl (tuL n (nI (k + r))) m (v, nI k, pI u 174 80 (nI a')) = some (p.1, pI u 174 80 (nI p.2))) ∧ (∀ w, fTl b L r a' v = .inl w → ∃ v' d, whl (tuL n (nI (k + r))) m (v, nI k, pI u 174 80 (nI a')) = some (v', d) ∧ FUW d w ∧ sx q80 u d)
  | 0, k, a', m, v, hk, ha, hm => by
    obtain ⟨y, rfl⟩ : ∃ y, m = y + 1 := ⟨m - 1, by omega⟩
    refine ⟨fun p hp => ?_, fun w hw => by cases hw⟩
    cases hp
    refine whl_out ?_
    unfold tuL
    dsimp only
    exact eq_wp (wpt (by simp (disch := first | omega | decide) only [↓neg1, nlit, rI, rL, rI2, rL1, nI_add, pk_mul, sbT, dvT, nmd, ixT, ↓ibT, ltT, ltF, leT, leF, eqT, eqF, nM_ltT, nM_ltF, nM_leT, nM_leF, nM_eqF, nM_eqF', nbT0, nbT1, oI_s, oI_n, natF, natT, nltT, nltF, nleT, nleF, ↓reduceIte, lgc, not_true_eq_false, not_false_eq_true, or_false, false_or, or_true, true_or, and_true, true_and, and_false, false_and, ne_eq, eq_self, or_self, and_self]) rfl)
  | r + 1, k, a', m, v, hk, ha, hm => by
    obtain ⟨y, rfl⟩ : ∃ y, m = y + 1 := ⟨m - 1, by omega⟩
    have h' := FUS_at h ha
    have hL := h.2.1
    obtain ⟨c1, hc1⟩ : ∃ c1, c1 = pI u 174 80 (nI a') := ⟨_, rfl⟩
    rw [← hc1] at h' ⊢
    have s1 : sx q80 u c1 := by
      rw [hc1]
      exact sx_pI sx_rfl (by decide)
    have h6 : c1.1 174 82 = nI 0 := h'.2.2.2.2.1
    have ih := tu_lp h r (k + 1) (a' + 1) y ((v <<< ((8 : Int32).toInt64 &&& 63)) ||| (nI (b a')).toInt64) (by omega)
    rw [show k + 1 + r = k + (r + 1) by omega] at ih
    have step : ∀ {q : (Int64 × Int32 × cS) ⊕ (Int64 × cS)}, wp (Option.bind (d_433 n 32 126 c1) (fun r6 =>
        jn (fun p8 : cS =>
          lt (((v <<< ((8 : Int32).toInt64 &&& 63)) ||| (r6.1 : Int32).toInt64) : Int64) (fun v10 =>
          lt (nI k + 1 : Int32) (fun v13 =>
          some (.inl (v10, v13, p8)))))
        (fun j65 =>
        if (r6.2.1 174 82) = 0 then
          if r6.1 = 39 then
            lt (pI r6.2 174 82 1) (fun c15 =>
            lt (pI c15 174 80 ((c15.1 174 80) - 1)) (fun c17 =>
            j65 c17))
          else
            j65 r6.2
        else
          j65 r6.2))) (fun z => z = q) → tuL n (nI (k + (r + 1))) (v, nI k, c1) = some q := fun {q} y => by
      unfold tuL
      dsimp only
      exact eq_wp (wpf (by simp (disch := first | omega | decide) only [↓neg1, nlit, rI, rL, rI2, rL1, nI_add, pk_mul, sbT, dvT, nmd, ixT, ↓ibT, ltT, ltF, leT, leF, eqT, eqF, nM_ltT, nM_ltF, nM_leT, nM_leF, nM_eqF, nM_eqF', nbT0, nbT1, oI_s, oI_n, natF, natT, nltT, nltF, nleT, nleF, ↓reduceIte, lgc, not_true_eq_false, not_false_eq_true, or_false, false_or, or_true, true_or, and_true, true_and, and_false, false_and, ne_eq, eq_self, or_self, and_self]) (wpt h6 y))
    by_cases e : a' < L ∧ 32 ≤ b a' ∧ b a' ≤ 126
    · have hb := (h'.2.2.2.2.2 a' e.1).1
      have hf : fby b L 32 126 a' = some (b a') := if_pos e
      have h433 := e433s (n := n) h' hf (by decide)
      rw [hc1, pI_pI] at h433
      rw [← hc1] at h433
      have e82 : (pI u 174 80 (nI (a' + 1))).1 174 82 = nI 0 := by
        rw [rI, if_neg (by omega)]
        exact h.2.2.2.2.1
      by_cases e2 : b a' = 39
      rotate_left
      · have hst : tuL n (nI (k + (r + 1))) (v, nI k, c1) = some (.inl ((v <<< ((8 : Int32).toInt64 &&& 63)) ||| (nI (b a')).toInt64, nI (k + 1), pI u 174 80 (nI (a' + 1)))) := by
          refine step (wpe h433 (wpj (wpt e82 (wpf (fun z => e2 ((nI_eq (by omega) (by decide)).mp (show _ = nI 39 from z))) (wpl (wpl ?_))))))
          rw [nI_1]
          rfl
        have hfn : fTl b L (r + 1) a' v = fTl b L r (a' + 1) ((v <<< ((8 : Int32).toInt64 &&& 63)) ||| (nI (b a')).toInt64) := by
          show (if _ then _ else _) = _
          rw [if_pos ⟨e.1, e.2.1, e.2.2, e2⟩]
        rw [hfn, whl_in hst]
        exact ih (by omega) (by omega)
      · have hfn : fTl b L (r + 1) a' v = .inl a' := by
          show (if _ then _ else _) = _
          rw [if_neg (fun z => z.2.2.2 e2)]
        rw [hfn]
        refine ⟨fun p hp => (by cases hp), fun w hw => ?_⟩
        cases hw
        have e10 : (pI (pI u 174 80 (nI (a' + 1))) 174 82 1).1 174 80 - 1 = nI a' := by
          rw [rI, if_neg (by omega), rI, if_pos ⟨rfl, rfl⟩]
          exact pk_sub (b := 1) (by omega)
        have hW : FUW (pI (pI (pI u 174 80 (nI (a' + 1))) 174 82 1) 174 80 (nI a')) a' := ⟨by omega, by rw [rI, if_neg (by omega), rI, if_pos ⟨rfl, rfl⟩]; rfl, by rw [rI, if_pos ⟨rfl, rfl⟩]⟩
        have hst : tuL n (nI (k + (r + 1))) (v, nI k, c1) = some (.inl ((v <<< ((8 : Int32).toInt64 &&& 63)) ||| (nI (b a')).toInt64, nI (k + 1), pI (pI (pI u 174 80 (nI (a' + 1))) 174 82 1) 174 80 (nI a'))) := by
          refine step (wpe h433 (wpj (wpt e82 (wpt (by rw [e2]; rfl) (wpl (wpl (wpl (wpl ?_))))))))
          dsimp only
          rw [nI_1, e10]
          rfl
        exact ⟨_, _, (whl_in hst).trans (tuL_w (by omega) hW), hW, sx_pI (sx_pI (sx_pI sx_rfl (by decide)) (by decide)) (by decide)⟩
    · have hfn : fTl b L (r + 1) a' v = .inl a' := by
        show (if _ then _ else _) = _
        exact if_neg (fun z => e ⟨z.1, z.2.1, z.2.2.1⟩)
      rw [hfn]
      refine ⟨fun p hp => (by cases hp), fun w hw => ?_⟩
      cases hw
      obtain ⟨h433, hW⟩ := e433n (n := n) h' (show fby b L 32 126 a' = none from if_neg e) (by decide) (by decide)
      have hst : tuL n (nI (k + (r + 1))) (v, nI k, c1) = some (.inl ((v <<< ((8 : Int32).toInt64 &&& 63)) ||| (0 : Int32).toInt64, nI (k + 1), pI c1 174 82 (nI 1))) := by
        refine step (wpe h433 (wpj (wpf (ne82 hW) (wpl (wpl ?_)))))
        rw [nI_1]
        rfl
      exact ⟨_, _, (whl_in hst).trans (tuL_w (by omega) hW), hW, sx_pI s1 (by decide)⟩
theorem e435s {p : Int64 × Nat} (hn : 100 ≤ n) (h : FUS u b L a) (hf : fTx b L a = .inr p) : d_435 n u = some (p.1, pI u 174 80 (nI p.2)) := by
  unfold fTx at hf
  cases e : fby b L 0 8 a with
  | none =>
    rw [e] at hf
    cases hf
  | some k =>
    rw [e] at hf
    dsimp only at hf
    have hk := fby_some e
    have := (tu_lp (n := n) h k 0 (a + 1) n 0 (by omega) (by omega) (by omega)).1 p hf
    rw [Nat.zero_add] at this
    rw [d435_s]
    exact eq_wp (wpe (e433s h e (by decide)) (wpe this rfl))
theorem e435n (hn : 100 ≤ n) (h : FUS u b L a) (hf : fTx b L a = .inl w) : ∃ v d, d_435 n u = some (v, d) ∧ FUW d w ∧ sx q80 u d := by
  unfold fTx at hf
  cases e : fby b L 0 8 a with
  | none =>
    rw [e] at hf
    cases hf
    obtain ⟨h433, hW⟩ := e433n (n := n) h e (by decide) (by decide)
    refine ⟨0, pI u 174 82 (nI 1), ?_, hW, sx_pI sx_rfl (by decide)⟩
    rw [d435_s]
    exact eq_wp (wpe h433 (wpe (tuL_w (k := 0) (by omega) hW) rfl))
  | some k =>
    rw [e] at hf
    dsimp only at hf
    have hk := fby_some e
    obtain ⟨v', d, h1, h2, h3⟩ := (tu_lp (n := n) h k 0 (a + 1) n 0 (by omega) (by omega) (by omega)).2 w hf
    rw [Nat.zero_add] at h1
    refine ⟨v', d, ?_, h2, h3⟩
    rw [d435_s]
    exact eq_wp (wpe (e433s h e (by decide)) (wpe h1 rfl))
end FLUS
