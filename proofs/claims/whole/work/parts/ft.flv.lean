/-! A FILE: the class reads values -/
section FLVS
variable {n a L w lo hi x K : Nat} {b : Nat → Nat} {c d e0 : cS}
/-! texts -/
def txL (n : Nat) (v : Int32) (s5 : Int64 × Int32 × cS) : Option ((Int64 × Int32 × cS) ⊕ (Int64 × cS)) :=
    if v ≤ s5.2.1 then
      some (.inr (s5.1, s5.2.2))
    else
      if 0 ≤ (s5.2.2.1 145 6) then
        some (.inr (s5.1, s5.2.2))
      else
        Option.bind (d_293 n 32 126 s5.2.2) (fun r6 =>
        jn (fun p8 : cS =>
          lt (((s5.1 <<< ((8 : Int32).toInt64 &&& 63)) ||| ((r6.1 &&& 255) : Int32).toInt64) : Int64) (fun v10 =>
          lt (s5.2.1 + 1 : Int32) (fun v13 =>
          some (.inl (v10, v13, p8)))))
        (fun j53 =>
        if r6.1 = 39 then
          lt (pI r6.2 145 6 ((r6.2.1 145 10) - 1)) (fun c15 =>
          j53 c15)
        else
          j53 r6.2))
theorem d297_s : d_297 n c = Option.bind (d_293 n 0 8 c) (fun r1 => Option.bind (whl (txL n r1.1) n (0, 0, r1.2)) (fun x17 : Int64 × cS => some (x17.1, x17.2))) := rfl
theorem txL_w {v : Int64} {k r : Nat} (hr : k + r ≤ 8) (hm : 0 < a) (h : FCW d w) : whl (txL n (nI (k + r))) a (v, nI k, d) = some (v, d) := by
  obtain ⟨y, rfl⟩ : ∃ y, a = y + 1 := ⟨a - 1, by omega⟩
  refine whl_out ?_
  unfold txL
  dsimp only
  rw [h.2.1]
  exact eq_wp (wpi (fun _ => rfl) (fun _ => wpt (nI_le (a := 0) (by omega) (by have := h.1; omega)) rfl))
theorem tx_lp (h : FCS c b L a) : ∀ (r k a' m : Nat) (v : Int64), k + r ≤ 8 → a' ≤ L → r + 1 < m → (∀ p, fTl b L r a' v = .inr p → whl (txL n (nI (k + r))) m (v, nI k, pI c 145 10 (nI a')) = some (p.1, pI c 145 10 (nI p.2))) ∧ (∀ w, fTl b L r a' v = .inl w → ∃ v' d, whl (txL n (nI (k + r))) m (v, nI k, pI c 145 10 (nI a')) = some (v', d) ∧ FCW d w ∧ sx q145f c d)
  | 0, k, a', m, v, hk, ha, hm => by
    obtain ⟨y, rfl⟩ : ∃ y, m = y + 1 := ⟨m - 1, by omega⟩
    refine ⟨fun p hp => ?_, fun w hw => by cases hw⟩
    cases hp
    refine whl_out ?_
    unfold txL
    dsimp only
    exact eq_wp (wpt (by simp (disch := first | omega | decide) only [↓neg1, nlit, rI, rL, rI2, rL1, nI_add, pk_mul, sbT, dvT, nmd, ixT, ↓ibT, ltT, ltF, leT, leF, eqT, eqF, nM_ltT, nM_ltF, nM_leT, nM_leF, nM_eqF, nM_eqF', nbT0, nbT1, oI_s, oI_n, natF, natT, nltT, nltF, nleT, nleF, ↓reduceIte, lgc, not_true_eq_false, not_false_eq_true, or_false, false_or, or_true, true_or, and_true, true_and, and_false, false_and, ne_eq, eq_self, or_self, and_self]) rfl)
  | r + 1, k, a', m, v, hk, ha, hm => by
    obtain ⟨y, rfl⟩ : ∃ y, m = y + 1 := ⟨m - 1, by omega⟩
    have h' := FCS_at h ha
    have hL := h.2.1
    obtain ⟨c1, hc1⟩ : ∃ c1, c1 = pI c 145 10 (nI a') := ⟨_, rfl⟩
    rw [← hc1] at h' ⊢
    have s1 : sx q145f c c1 := by
      rw [hc1]
      exact sx_pI sx_rfl (by decide)
    have h6 : c1.1 145 6 = nM := h'.2.2.2.2.1
    have ih := tx_lp h r (k + 1) (a' + 1) y ((v <<< ((8 : Int32).toInt64 &&& 63)) ||| (nI (b a')).toInt64) (by omega)
    rw [show k + 1 + r = k + (r + 1) by omega] at ih
    have step : ∀ {q : (Int64 × Int32 × cS) ⊕ (Int64 × cS)}, wp (Option.bind (d_293 n 32 126 c1) (fun r6 =>
        jn (fun p8 : cS =>
          lt (((v <<< ((8 : Int32).toInt64 &&& 63)) ||| ((r6.1 &&& 255) : Int32).toInt64) : Int64) (fun v10 =>
          lt (nI k + 1 : Int32) (fun v13 =>
          some (.inl (v10, v13, p8)))))
        (fun j53 =>
        if r6.1 = 39 then
          lt (pI r6.2 145 6 ((r6.2.1 145 10) - 1)) (fun c15 =>
          j53 c15)
        else
          j53 r6.2))) (fun z => z = q) → txL n (nI (k + (r + 1))) (v, nI k, c1) = some q := fun {q} y => by
      unfold txL
      dsimp only
      rw [h6]
      exact eq_wp (wpf (by simp (disch := first | omega | decide) only [↓neg1, nlit, rI, rL, rI2, rL1, nI_add, pk_mul, sbT, dvT, nmd, ixT, ↓ibT, ltT, ltF, leT, leF, eqT, eqF, nM_ltT, nM_ltF, nM_leT, nM_leF, nM_eqF, nM_eqF', nbT0, nbT1, oI_s, oI_n, natF, natT, nltT, nltF, nleT, nleF, ↓reduceIte, lgc, not_true_eq_false, not_false_eq_true, or_false, false_or, or_true, true_or, and_true, true_and, and_false, false_and, ne_eq, eq_self, or_self, and_self]) (wpf (by decide) y))
    by_cases e : a' < L ∧ 32 ≤ b a' ∧ b a' ≤ 126
    · have hf : fby b L 32 126 a' = some (b a') := if_pos e
      have hb := (h'.2.2.2.2.2 a' e.1).1
      have h293 := e293s (n := n) h' hf (by decide)
      rw [hc1, pI_pI] at h293
      rw [← hc1] at h293
      have an : nI (b a') &&& 255 = nI (b a') := an255 hb
      by_cases e2 : b a' = 39
      rotate_left
      · have hst : txL n (nI (k + (r + 1))) (v, nI k, c1) = some (.inl ((v <<< ((8 : Int32).toInt64 &&& 63)) ||| (nI (b a')).toInt64, nI (k + 1), pI c 145 10 (nI (a' + 1)))) := by
          refine step (wpe h293 (wpj (wpf (fun z => e2 ((nI_eq (by omega) (by decide)).mp (show _ = nI 39 from z))) (wpl (wpl ?_)))))
          dsimp only
          rw [an, nI_1]
          rfl
        have hfn : fTl b L (r + 1) a' v = fTl b L r (a' + 1) ((v <<< ((8 : Int32).toInt64 &&& 63)) ||| (nI (b a')).toInt64) := by
          show (if _ then _ else _) = _
          rw [if_pos ⟨e.1, e.2.1, e.2.2, e2⟩]
        rw [hfn, whl_in hst]
        exact ih (by omega) (by omega)
      · have hfn : fTl b L (r + 1) a' v = .inl a' := by
          show (if _ then _ else _) = _
          rw [if_neg (fun z => z.2.2.2 e2)]
        rw [hfn]
        refine ⟨fun p hp => (by cases hp), fun w hw => ?_⟩
        cases hw
        have hW : FCW (pI (pI c 145 10 (nI (a' + 1))) 145 6 (nI a')) a' := ⟨by omega, by rw [rI, if_pos ⟨rfl, rfl⟩], a' + 1, L, by omega, hL, by rw [rI, if_neg (by omega), rI, if_pos ⟨rfl, rfl⟩], by rw [rI, if_neg (by omega), rI, if_neg (by omega)]; exact h.2.2.2.1⟩
        have hst : txL n (nI (k + (r + 1))) (v, nI k, c1) = some (.inl ((v <<< ((8 : Int32).toInt64 &&& 63)) ||| (nI (b a')).toInt64, nI (k + 1), pI (pI c 145 10 (nI (a' + 1))) 145 6 (nI a'))) := by
          have e10 : (pI c 145 10 (nI (a' + 1))).1 145 10 - 1 = nI a' := by
            rw [rI, if_pos ⟨rfl, rfl⟩]
            exact pk_sub (b := 1) (by omega)
          refine step (wpe h293 (wpj (wpt (by rw [e2]; rfl) (wpl (wpl (wpl ?_))))))
          dsimp only
          rw [an, nI_1, e10]
          rfl
        refine ⟨(v <<< ((8 : Int32).toInt64 &&& 63)) ||| (nI (b a')).toInt64, _, (whl_in hst).trans ?_, hW, sx_pI (sx_pI sx_rfl (by decide)) (by decide)⟩
        rw [show k + (r + 1) = k + 1 + r by omega]
        exact txL_w (by omega) (by omega) hW
    · have hfn : fTl b L (r + 1) a' v = .inl a' := by
        show (if _ then _ else _) = _
        exact if_neg (fun z => e ⟨z.1, z.2.1, z.2.2.1⟩)
      rw [hfn]
      refine ⟨fun p hp => (by cases hp), fun w hw => ?_⟩
      cases hw
      have h293 := e293n (n := n) h' (show fby b L 32 126 a' = none from if_neg e) (by decide) (by decide)
      have hW := FCW_of h' ha
      have hst : txL n (nI (k + (r + 1))) (v, nI k, c1) = some (.inl ((v <<< ((8 : Int32).toInt64 &&& 63)) ||| ((nM &&& 255) : Int32).toInt64, nI (k + 1), pI c1 145 6 (nI a'))) := by
        refine step (wpe h293 (wpj (wpf (show ¬ nM = 39 by decide) (wpl (wpl ?_)))))
        rw [nI_1]
        rfl
      refine ⟨(v <<< ((8 : Int32).toInt64 &&& 63)) ||| ((nM &&& 255) : Int32).toInt64, _, (whl_in hst).trans ?_, hW, sx_pI s1 (by decide)⟩
      rw [show k + (r + 1) = k + 1 + r by omega]
      exact txL_w (by omega) (by omega) hW
theorem e297s {p : Int64 × Nat} (hn : 100 ≤ n) (h : FCS c b L a) (hf : fTx b L a = .inr p) : d_297 n c = some (p.1, pI c 145 10 (nI p.2)) := by
  unfold fTx at hf
  cases e : fby b L 0 8 a with
  | none =>
    rw [e] at hf
    cases hf
  | some k =>
    rw [e] at hf
    dsimp only at hf
    have hk := fby_some e
    have := (tx_lp (n := n) h k 0 (a + 1) n 0 (by omega) (by omega) (by omega)).1 p hf
    rw [Nat.zero_add] at this
    rw [d297_s]
    exact eq_wp (wpe (e293s h e (by decide)) (wpe this rfl))
theorem e297n (hn : 100 ≤ n) (h : FCS c b L a) (hf : fTx b L a = .inl w) : ∃ v d, d_297 n c = some (v, d) ∧ FCW d w ∧ sx q145f c d := by
  unfold fTx at hf
  cases e : fby b L 0 8 a with
  | none =>
    rw [e] at hf
    cases hf
    have hW := FCW_of h h.1
    refine ⟨0, pI c 145 6 (nI a), ?_, hW, sx_pI sx_rfl (by decide)⟩
    rw [d297_s]
    refine eq_wp (wpe (e293n h e (by decide) (by decide)) ?_)
    obtain ⟨y, hy⟩ : ∃ y, n = y + 1 := ⟨n - 1, by omega⟩
    have : whl (txL n nM) (y + 1) (0, 0, pI c 145 6 (nI a)) = some (0, pI c 145 6 (nI a)) := whl_out (by
      unfold txL
      dsimp only
      exact eq_wp (wpt (by decide) rfl))
    rw [← hy] at this
    exact wpe this rfl
  | some k =>
    rw [e] at hf
    dsimp only at hf
    have hk := fby_some e
    obtain ⟨v', d, h1, h2, h3⟩ := (tx_lp (n := n) h k 0 (a + 1) n 0 (by omega) (by omega) (by omega)).2 w hf
    rw [Nat.zero_add] at h1
    refine ⟨v', d, ?_, h2, h3⟩
    rw [d297_s]
    exact eq_wp (wpe (e293s h e (by decide)) (wpe h1 rfl))
theorem e297w (hn : 100 ≤ n) (h : FCW c w) : d_297 n c = some (0, c) := by
  rw [d297_s]
  refine eq_wp (wpe (e293w h) ?_)
  obtain ⟨y, hy⟩ : ∃ y, n = y + 1 := ⟨n - 1, by omega⟩
  have : whl (txL n nM) (y + 1) (0, 0, c) = some (0, c) := whl_out (by
    unfold txL
    dsimp only
    exact eq_wp (wpt (by decide) rfl))
  rw [← hy] at this
  exact wpe this rfl
/-! ints -/
def inL (n : Nat) (s6 : Int32 × Int32 × cS) : Option ((Int32 × Int32 × cS) ⊕ (Int32 × cS)) :=
      if 4 ≤ s6.2.1 then
        some (.inr (s6.1, s6.2.2))
      else
        Option.bind (d_293 n 0 255 s6.2.2) (fun r7 =>
        lt (((s6.1 <<< (8 &&& 31)) ||| (r7.1 &&& 255)) : Int32) (fun v9 =>
        lt (s6.2.1 + 1 : Int32) (fun v12 =>
        some (.inl (v9, v12, r7.2)))))
theorem inL_w (h : FCW d w) : ∀ (r k m : Nat) (v : Int32), k + r = 4 → r < m → ∃ v', whl (inL n) m (v, nI k, d) = some (v', d)
  | 0, k, m, v, hk, hm => by
    obtain ⟨y, rfl⟩ : ∃ y, m = y + 1 := ⟨m - 1, by omega⟩
    refine ⟨v, whl_out ?_⟩
    unfold inL
    dsimp only
    rw [show k = 4 by omega]
    exact eq_wp (wpt (by decide) rfl)
  | r + 1, k, m, v, hk, hm => by
    obtain ⟨y, rfl⟩ : ∃ y, m = y + 1 := ⟨m - 1, by omega⟩
    obtain ⟨v', ih⟩ := inL_w h r (k + 1) y ((v <<< (8 &&& 31)) ||| (nM &&& 255)) (by omega) (by omega)
    refine ⟨v', (whl_in ?_).trans ih⟩
    unfold inL
    dsimp only
    refine eq_wp (wpf (by simp (disch := first | omega | decide) only [↓neg1, nlit, rI, rL, rI2, rL1, nI_add, pk_mul, sbT, dvT, nmd, ixT, ↓ibT, ltT, ltF, leT, leF, eqT, eqF, nM_ltT, nM_ltF, nM_leT, nM_leF, nM_eqF, nM_eqF', nbT0, nbT1, oI_s, oI_n, natF, natT, nltT, nltF, nleT, nleF, ↓reduceIte, lgc, not_true_eq_false, not_false_eq_true, or_false, false_or, or_true, true_or, and_true, true_and, and_false, false_and, ne_eq, eq_self, or_self, and_self]) (wpe (e293w h) (wpl (wpl ?_))))
    rw [nI_1]
    rfl
theorem in_lp (h : FCS c b L a) : ∀ (r k a' m : Nat) (v : Int32), k + r = 4 → a' ≤ L → r < m → (∀ p, fIl b L r a' v = .inr p → whl (inL n) m (v, nI k, pI c 145 10 (nI a')) = some (p.1, pI c 145 10 (nI p.2))) ∧ (∀ w, fIl b L r a' v = .inl w → ∃ v' d, whl (inL n) m (v, nI k, pI c 145 10 (nI a')) = some (v', d) ∧ FCW d w ∧ sx q145f c d)
  | 0, k, a', m, v, hk, ha, hm => by
    obtain ⟨y, rfl⟩ : ∃ y, m = y + 1 := ⟨m - 1, by omega⟩
    refine ⟨fun p hp => ?_, fun w hw => by cases hw⟩
    cases hp
    refine whl_out ?_
    unfold inL
    dsimp only
    rw [show k = 4 by omega]
    exact eq_wp (wpt (by decide) rfl)
  | r + 1, k, a', m, v, hk, ha, hm => by
    obtain ⟨y, rfl⟩ : ∃ y, m = y + 1 := ⟨m - 1, by omega⟩
    have h' := FCS_at h ha
    obtain ⟨c1, hc1⟩ : ∃ c1, c1 = pI c 145 10 (nI a') := ⟨_, rfl⟩
    rw [← hc1] at h' ⊢
    by_cases e : a' < L
    · have hb := (h'.2.2.2.2.2 a' e).1
      have hf : fby b L 0 255 a' = some (b a') := if_pos ⟨e, by omega, by omega⟩
      have h293 := e293s (n := n) h' hf (by decide)
      rw [hc1, pI_pI] at h293
      rw [← hc1] at h293
      have an : nI (b a') &&& 255 = nI (b a') := an255 hb
      have hst : inL n (v, nI k, c1) = some (.inl ((v <<< (8 &&& 31)) ||| nI (b a'), nI (k + 1), pI c 145 10 (nI (a' + 1)))) := by
        unfold inL
        dsimp only
        refine eq_wp (wpf (by simp (disch := first | omega | decide) only [↓neg1, nlit, rI, rL, rI2, rL1, nI_add, pk_mul, sbT, dvT, nmd, ixT, ↓ibT, ltT, ltF, leT, leF, eqT, eqF, nM_ltT, nM_ltF, nM_leT, nM_leF, nM_eqF, nM_eqF', nbT0, nbT1, oI_s, oI_n, natF, natT, nltT, nltF, nleT, nleF, ↓reduceIte, lgc, not_true_eq_false, not_false_eq_true, or_false, false_or, or_true, true_or, and_true, true_and, and_false, false_and, ne_eq, eq_self, or_self, and_self]) (wpe h293 (wpl (wpl ?_))))
        dsimp only
        rw [an, nI_1]
        rfl
      have hfn : fIl b L (r + 1) a' v = fIl b L r (a' + 1) ((v <<< (8 &&& 31)) ||| nI (b a')) := by
        show (if _ then _ else _) = _
        rw [if_pos e]
      rw [hfn, whl_in hst]
      exact in_lp h r (k + 1) (a' + 1) y _ (by omega) (by omega) (by omega)
    · have hfn : fIl b L (r + 1) a' v = .inl a' := by
        show (if _ then _ else _) = _
        rw [if_neg e]
      rw [hfn]
      refine ⟨fun p hp => (by cases hp), fun w hw => ?_⟩
      cases hw
      have h293 := e293n (n := n) h' (show fby b L 0 255 a' = none from if_neg (fun z => e z.1)) (by decide) (by decide)
      have hW := FCW_of h' ha
      obtain ⟨v', ih⟩ := inL_w (n := n) hW r (k + 1) y ((v <<< (8 &&& 31)) ||| (nM &&& 255)) (by omega) (by omega)
      refine ⟨v', pI c1 145 6 (nI a'), (whl_in ?_).trans ih, hW, ?_⟩
      · unfold inL
        dsimp only
        refine eq_wp (wpf (by simp (disch := first | omega | decide) only [↓neg1, nlit, rI, rL, rI2, rL1, nI_add, pk_mul, sbT, dvT, nmd, ixT, ↓ibT, ltT, ltF, leT, leF, eqT, eqF, nM_ltT, nM_ltF, nM_leT, nM_leF, nM_eqF, nM_eqF', nbT0, nbT1, oI_s, oI_n, natF, natT, nltT, nltF, nleT, nleF, ↓reduceIte, lgc, not_true_eq_false, not_false_eq_true, or_false, false_or, or_true, true_or, and_true, true_and, and_false, false_and, ne_eq, eq_self, or_self, and_self]) (wpe h293 (wpl (wpl ?_))))
        rw [nI_1]
        rfl
      · rw [hc1]
        exact sx_pI (sx_pI sx_rfl (by decide)) (by decide)
theorem d296_s {x : Int32} : d_296 n x c = if x = 1 then
    Option.bind (whl (inL n) n (0, 0, c))
    (fun x14 : Int32 × cS =>
      some ((x14.1 : Int32).toInt64, x14.2))
  else
    jn (fun p1 : Int64 × cS =>
      some (p1.1, p1.2))
    (fun j57 =>
    if x = 2 then
      Option.bind (d_297 n c) (fun r3 =>
      j57 (r3.1, r3.2))
    else
      Option.bind (d_295 n c) (fun r2 =>
      j57 (r2.1, r2.2))) := rfl
theorem e296s {s : Nat} {p : Int64 × Nat} (hn : 100 ≤ n) (h : FCS c b L a) (hs : 1 ≤ s ∧ s ≤ 3) (hf : fVl b L s a = .inr p) : d_296 n (nI s) c = some (p.1, pI c 145 10 (nI p.2)) := by
  unfold fVl at hf
  rw [d296_s]
  by_cases e1 : s = 1
  · rw [if_pos e1] at hf
    cases e : fIl b L 4 a 0 with
    | inl w =>
      rw [e] at hf
      cases hf
    | inr q =>
      rw [e] at hf
      cases hf
      have := (in_lp (n := n) h 4 0 a n 0 (by omega) h.1 (by omega)).1 q e
      rw [FCS_self h] at this
      exact eq_wp (wpt (by rw [e1]; rfl) (wpe this rfl))
  · rw [if_neg e1] at hf
    by_cases e2 : s = 2
    · rw [if_pos e2] at hf
      exact eq_wp (wpf (by simp (disch := first | omega | decide) only [↓neg1, nlit, rI, rL, rI2, rL1, nI_add, pk_mul, sbT, dvT, nmd, ixT, ↓ibT, ltT, ltF, leT, leF, eqT, eqF, nM_ltT, nM_ltF, nM_leT, nM_leF, nM_eqF, nM_eqF', nbT0, nbT1, oI_s, oI_n, natF, natT, nltT, nltF, nleT, nleF, ↓reduceIte, lgc, not_true_eq_false, not_false_eq_true, or_false, false_or, or_true, true_or, and_true, true_and, and_false, false_and, ne_eq, eq_self, or_self, and_self]) (wpj (wpt (by rw [e2]; rfl) (wpe (e297s hn h hf) rfl))))
    · rw [if_neg e2] at hf
      exact eq_wp (wpf (by simp (disch := first | omega | decide) only [↓neg1, nlit, rI, rL, rI2, rL1, nI_add, pk_mul, sbT, dvT, nmd, ixT, ↓ibT, ltT, ltF, leT, leF, eqT, eqF, nM_ltT, nM_ltF, nM_leT, nM_leF, nM_eqF, nM_eqF', nbT0, nbT1, oI_s, oI_n, natF, natT, nltT, nltF, nleT, nleF, ↓reduceIte, lgc, not_true_eq_false, not_false_eq_true, or_false, false_or, or_true, true_or, and_true, true_and, and_false, false_and, ne_eq, eq_self, or_self, and_self]) (wpj (wpf (by simp (disch := first | omega | decide) only [↓neg1, nlit, rI, rL, rI2, rL1, nI_add, pk_mul, sbT, dvT, nmd, ixT, ↓ibT, ltT, ltF, leT, leF, eqT, eqF, nM_ltT, nM_ltF, nM_leT, nM_leF, nM_eqF, nM_eqF', nbT0, nbT1, oI_s, oI_n, natF, natT, nltT, nltF, nleT, nleF, ↓reduceIte, lgc, not_true_eq_false, not_false_eq_true, or_false, false_or, or_true, true_or, and_true, true_and, and_false, false_and, ne_eq, eq_self, or_self, and_self]) (wpe (e295s hn h hf) rfl))))
theorem e296n {s : Nat} (hn : 100 ≤ n) (h : FCS c b L a) (hs : 1 ≤ s ∧ s ≤ 3) (hf : fVl b L s a = .inl w) : ∃ v d, d_296 n (nI s) c = some (v, d) ∧ FCW d w ∧ sx q145f c d := by
  unfold fVl at hf
  by_cases e1 : s = 1
  · rw [if_pos e1] at hf
    cases e : fIl b L 4 a 0 with
    | inr q =>
      rw [e] at hf
      cases hf
    | inl w' =>
      rw [e] at hf
      cases hf
      obtain ⟨v', d, h1, h2, h3⟩ := (in_lp (n := n) h 4 0 a n 0 (by omega) h.1 (by omega)).2 _ e
      rw [FCS_self h] at h1
      refine ⟨v'.toInt64, d, ?_, h2, h3⟩
      rw [d296_s]
      exact eq_wp (wpt (by rw [e1]; rfl) (wpe h1 rfl))
  · rw [if_neg e1] at hf
    by_cases e2 : s = 2
    · rw [if_pos e2] at hf
      obtain ⟨v', d, h1, h2, h3⟩ := e297n hn h hf
      refine ⟨v', d, ?_, h2, h3⟩
      rw [d296_s]
      exact eq_wp (wpf (by simp (disch := first | omega | decide) only [↓neg1, nlit, rI, rL, rI2, rL1, nI_add, pk_mul, sbT, dvT, nmd, ixT, ↓ibT, ltT, ltF, leT, leF, eqT, eqF, nM_ltT, nM_ltF, nM_leT, nM_leF, nM_eqF, nM_eqF', nbT0, nbT1, oI_s, oI_n, natF, natT, nltT, nltF, nleT, nleF, ↓reduceIte, lgc, not_true_eq_false, not_false_eq_true, or_false, false_or, or_true, true_or, and_true, true_and, and_false, false_and, ne_eq, eq_self, or_self, and_self]) (wpj (wpt (by rw [e2]; rfl) (wpe h1 rfl))))
    · rw [if_neg e2] at hf
      obtain ⟨v', d, h1, h2, h3⟩ := e295n hn h hf
      refine ⟨v', d, ?_, h2, h3⟩
      rw [d296_s]
      exact eq_wp (wpf (by simp (disch := first | omega | decide) only [↓neg1, nlit, rI, rL, rI2, rL1, nI_add, pk_mul, sbT, dvT, nmd, ixT, ↓ibT, ltT, ltF, leT, leF, eqT, eqF, nM_ltT, nM_ltF, nM_leT, nM_leF, nM_eqF, nM_eqF', nbT0, nbT1, oI_s, oI_n, natF, natT, nltT, nltF, nleT, nleF, ↓reduceIte, lgc, not_true_eq_false, not_false_eq_true, or_false, false_or, or_true, true_or, and_true, true_and, and_false, false_and, ne_eq, eq_self, or_self, and_self]) (wpj (wpf (by simp (disch := first | omega | decide) only [↓neg1, nlit, rI, rL, rI2, rL1, nI_add, pk_mul, sbT, dvT, nmd, ixT, ↓ibT, ltT, ltF, leT, leF, eqT, eqF, nM_ltT, nM_ltF, nM_leT, nM_leF, nM_eqF, nM_eqF', nbT0, nbT1, oI_s, oI_n, natF, natT, nltT, nltF, nleT, nleF, ↓reduceIte, lgc, not_true_eq_false, not_false_eq_true, or_false, false_or, or_true, true_or, and_true, true_and, and_false, false_and, ne_eq, eq_self, or_self, and_self]) (wpe h1 rfl))))
theorem e296w {x : Int32} (hn : 100 ≤ n) (h : FCW c w) : ∃ v, d_296 n x c = some (v, c) := by
  by_cases e1 : x = 1
  · obtain ⟨v', h1⟩ := inL_w (n := n) h 4 0 n 0 (by omega) (by omega)
    refine ⟨v'.toInt64, ?_⟩
    rw [d296_s]
    exact eq_wp (wpt e1 (wpe h1 rfl))
  · refine ⟨0, ?_⟩
    rw [d296_s]
    by_cases e2 : x = 2
    · exact eq_wp (wpf e1 (wpj (wpt e2 (wpe (e297w hn h) rfl))))
    · exact eq_wp (wpf e1 (wpj (wpf e2 (wpe (e295w hn h) rfl))))
end FLVS
