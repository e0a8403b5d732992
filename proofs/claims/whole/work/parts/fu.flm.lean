/-! A FILE: the class reads MARKS, without a row -/
section FLMS
variable {n a L w lo hi x K : Nat} {b : Nat → Nat} {c d e0 : cS}
def fpL (n : Nat) (p5 p3 p7 : Int32) (s11 : Int32 × cS) : Option ((Int32 × cS) ⊕ cS) :=
            if p5 ≤ s11.1 then
              some (.inr s11.2)
            else
              if p3 = 0 then
                if 0 ≤ (s11.2.1 145 6) then
                  some (.inr s11.2)
                else
                  Option.bind (d_295 n s11.2) (fun r12 =>
                  Option.bind (d_293 n 1 3 r12.2) (fun r14 =>
                  Option.bind (d_296 n r14.1 r14.2) (fun r16 =>
                  jn (fun p18 : cS =>
                    lt (s11.1 + 1 : Int32) (fun v20 =>
                    some (.inl (v20, p18))))
                  (fun j175 =>
                  if p7 < 0 then
                    j175 r16.2
                  else
                    Option.bind (d_225 n p7 r12.1 r14.1 r16.1 r16.2) (fun r22 =>
                    j175 r22)))))
              else
                some (.inr s11.2)
def g294 (n : Nat) (p3 : Int32) (p5 p7 : Int32 × cS) : Option cS :=
        jn (fun p9 : cS =>
          Option.bind (whl (fpL n p5.1 p3 p7.1) n (0, p9))
          (fun x23 : cS =>
            some x23))
        (fun j111 =>
        if p7.1 < 0 then
          j111 p7.2
        else
          if p3 = 0 then
            j111 p7.2
          else
            if ib p7.1 4096 then
            lt (pI p7.2 136 (ix p7.1) (-1)) (fun c25 =>
            j111 c25)
            else none)
def h294 (n : Nat) (a1 : Int32) (nm : Int64) (p3 : Int32) (p5 : Int32 × cS) : Option cS :=
      jn (g294 n p3 p5)
      (fun j88 =>
      if 0 ≤ a1 then
        Option.bind (d_224 n a1 nm p5.2) (fun r27 =>
        j88 (r27.1, r27.2))
      else
        j88 ((-1), p5.2))
theorem d294_s {a1 : Int32} : d_294 n a1 c = Option.bind (d_295 n c) (fun r1 =>
  jn (fun p3 : Int32 =>
    jn (h294 n a1 r1.1 p3)
    (fun j69 =>
    if p3 = 0 then
      Option.bind (d_293 n 0 4 r1.2) (fun r28 =>
      j69 (r28.1, r28.2))
    else
      Option.bind (d_293 n 255 255 r1.2) (fun r29 =>
      j69 (r29.1, r29.2))))
  (fun j43 =>
  jn (fun p30 : Unit =>
    j43 0)
  (fun j42 =>
  if (r1.2.1 145 11) ≤ (r1.2.1 145 10) then
    j42 ()
  else
    if ib (r1.2.1 145 10) 4000 then
    if ((r1.2.1 2 (ix (r1.2.1 145 10))) &&& 255) = 255 then
      j43 1
    else
      j42 ()
    else none))) := rfl
/-- a no MARK, where nothing is wrong -/
theorem no_c {f : Int32 → Option cS} {Q : cS → Prop} (h : FCS c b L a) (hf : wp (f (if a < L ∧ b a = 255 then 1 else 0)) Q) : wp (jn f (fun j43 =>
  jn (fun p30 : Unit =>
    j43 0)
  (fun j42 =>
  if (c.1 145 11) ≤ (c.1 145 10) then
    j42 ()
  else
    if ib (c.1 145 10) 4000 then
    if ((c.1 2 (ix (c.1 145 10))) &&& 255) = 255 then
      j43 1
    else
      j42 ()
    else none))) Q := by
  obtain ⟨h1, h2, h3, h4, h5, h6⟩ := h
  rw [h3, h4, show ix (nI a) = a from ix_n (by omega)]
  refine wpj (wpj ?_)
  by_cases e : a < L
  · obtain ⟨g1, g2⟩ := h6 a e
    rw [g2, sb_255 g1]
    refine wpf (by simp (disch := first | omega | decide) only [↓neg1, nlit, rI, rL, rI2, rL1, nI_add, pk_mul, sbT, dvT, nmd, ixT, ↓ibT, ltT, ltF, leT, leF, eqT, eqF, nM_ltT, nM_ltF, nM_leT, nM_leF, nM_eqF, nM_eqF', nbT0, nbT1, oI_s, oI_n, natF, natT, nltT, nltF, nleT, nleF, ↓reduceIte, lgc, not_true_eq_false, not_false_eq_true, or_false, false_or, or_true, true_or, and_true, true_and, and_false, false_and, ne_eq, eq_self, or_self, and_self]) (wpt (ib_n (by omega) (by decide)) ?_)
    by_cases e2 : b a = 255
    · rw [if_pos ⟨e, e2⟩] at hf
      exact wpt (by rw [e2]; rfl) hf
    · rw [if_neg (fun z => e2 z.2)] at hf
      exact wpf (fun z => e2 ((nI_eq (by omega) (by decide)).mp (show _ = nI 255 from z))) hf
  · rw [if_neg (fun z => e z.1)] at hf
    exact wpt (by simp (disch := first | omega | decide) only [↓neg1, nlit, rI, rL, rI2, rL1, nI_add, pk_mul, sbT, dvT, nmd, ixT, ↓ibT, ltT, ltF, leT, leF, eqT, eqF, nM_ltT, nM_ltF, nM_leT, nM_leF, nM_eqF, nM_eqF', nbT0, nbT1, oI_s, oI_n, natF, natT, nltT, nltF, nleT, nleF, ↓reduceIte, lgc, not_true_eq_false, not_false_eq_true, or_false, false_or, or_true, true_or, and_true, true_and, and_false, false_and, ne_eq, eq_self, or_self, and_self]) hf
theorem fpL_w {v p3 p7 : Int32} {k m : Nat} (hm : 0 < m) (h : FCW d w) : whl (fpL n v p3 p7) m (nI k, d) = some d := by
  obtain ⟨y, rfl⟩ : ∃ y, m = y + 1 := ⟨m - 1, by omega⟩
  refine whl_out ?_
  unfold fpL
  dsimp only
  rw [h.2.1]
  exact eq_wp (wpi (fun _ => rfl) (fun _ => wpi (fun _ => wpt (nI_le (a := 0) (by omega) (by have := h.1; omega)) rfl) (fun _ => rfl)))
theorem fp_lp1 (hn : 100 ≤ n) (h : FCS c b L a) : ∀ (r k a' m : Nat) (l : List (Int64 × Nat × Int64)), k + r ≤ 4 → a' ≤ L → r + 1 < m → (∀ p, fPl b L r a' l = .inr p → whl (fpL n (nI (k + r)) 0 nM) m (nI k, pI c 145 10 (nI a')) = some (pI c 145 10 (nI p.2))) ∧ (∀ w, fPl b L r a' l = .inl w → ∃ d, whl (fpL n (nI (k + r)) 0 nM) m (nI k, pI c 145 10 (nI a')) = some d ∧ FCW d w ∧ sx q145f c d)
  | 0, k, a', m, l, hk, ha, hm => by
    obtain ⟨y, rfl⟩ : ∃ y, m = y + 1 := ⟨m - 1, by omega⟩
    refine ⟨fun p hp => ?_, fun w hw => by cases hw⟩
    cases hp
    refine whl_out ?_
    unfold fpL
    dsimp only
    exact eq_wp (wpt (by simp (disch := first | omega | decide) only [↓neg1, nlit, rI, rL, rI2, rL1, nI_add, pk_mul, sbT, dvT, nmd, ixT, ↓ibT, ltT, ltF, leT, leF, eqT, eqF, nM_ltT, nM_ltF, nM_leT, nM_leF, nM_eqF, nM_eqF', nbT0, nbT1, oI_s, oI_n, natF, natT, nltT, nltF, nleT, nleF, ↓reduceIte, lgc, not_true_eq_false, not_false_eq_true, or_false, false_or, or_true, true_or, and_true, true_and, and_false, false_and, ne_eq, eq_self, or_self, and_self]) rfl)
  | r + 1, k, a', m, l, hk, ha, hm => by
    obtain ⟨y, rfl⟩ : ∃ y, m = y + 1 := ⟨m - 1, by omega⟩
    have h' := FCS_at h ha
    obtain ⟨c1, hc1⟩ : ∃ c1, c1 = pI c 145 10 (nI a') := ⟨_, rfl⟩
    rw [← hc1] at h' ⊢
    have s1 : sx q145f c c1 := by
      rw [hc1]
      exact sx_pI sx_rfl (by decide)
    have h6 : c1.1 145 6 = nM := h'.2.2.2.2.1
    have step : ∀ {v1 v3 : Int64} {v2 : Int32} {d1 d2 d3 : cS}, d_295 n c1 = some (v1, d1) → d_293 n 1 3 d1 = some (v2, d2) → d_296 n v2 d2 = some (v3, d3) → fpL n (nI (k + (r + 1))) 0 nM (nI k, c1) = some (.inl (nI (k + 1), d3)) := fun {v1 v3 v2 d1 d2 d3} y1 y2 y3 => by
      unfold fpL
      dsimp only
      rw [h6]
      refine eq_wp (wpf (by simp (disch := first | omega | decide) only [↓neg1, nlit, rI, rL, rI2, rL1, nI_add, pk_mul, sbT, dvT, nmd, ixT, ↓ibT, ltT, ltF, leT, leF, eqT, eqF, nM_ltT, nM_ltF, nM_leT, nM_leF, nM_eqF, nM_eqF', nbT0, nbT1, oI_s, oI_n, natF, natT, nltT, nltF, nleT, nleF, ↓reduceIte, lgc, not_true_eq_false, not_false_eq_true, or_false, false_or, or_true, true_or, and_true, true_and, and_false, false_and, ne_eq, eq_self, or_self, and_self]) (wpt rfl (wpf (by decide) (wpe y1 (wpe y2 (wpe y3 (wpj (wpt (by decide) (wpl ?_)))))))))
      rw [nI_1]
      rfl
    have hbad : ∀ {w : Nat} {d : cS}, FCW d w → sx q145f c d → fpL n (nI (k + (r + 1))) 0 nM (nI k, c1) = some (.inl (nI (k + 1), d)) → ∃ d, whl (fpL n (nI (k + (r + 1))) 0 nM) (y + 1) (nI k, c1) = some d ∧ FCW d w ∧ sx q145f c d := fun {w d} y1 y2 y3 => ⟨d, (whl_in y3).trans (fpL_w (by omega) y1), y1, y2⟩
    have hfn : fPl b L (r + 1) a' l = match fP1 b L a' with
      | .inl w => .inl w
      | .inr p => fPl b L r p.2 (l ++ [p.1]) := rfl
    have b1 := fNm_b (b := b) (a := a') (L := L) ha
    cases e1 : fNm b L a' with
    | inl w1 =>
      have hp1 : fP1 b L a' = .inl w1 := by
        unfold fP1
        rw [e1]
      rw [hfn, hp1]
      refine ⟨fun p hp => (by cases hp), fun w hw => ?_⟩
      cases hw
      obtain ⟨v', d, y1, y2, y3⟩ := e295n hn h' e1
      obtain ⟨v3, z1⟩ := e296w (n := n) (x := nM) hn y2
      exact hbad y2 (sx_trans s1 y3) (step y1 (e293w y2) z1)
    | inr p1 =>
      have hb1 := b1.2 e1
      have y1 := e295s hn h' e1
      rw [hc1, pI_pI] at y1
      rw [← hc1] at y1
      have h2 := FCS_at h hb1.2
      cases e2 : fby b L 1 3 p1.2 with
      | none =>
        have hp1 : fP1 b L a' = .inl p1.2 := by
          unfold fP1
          rw [e1]
          dsimp only
          rw [e2]
        rw [hfn, hp1]
        refine ⟨fun p hp => (by cases hp), fun w hw => ?_⟩
        cases hw
        have hW := FCW_of h2 hb1.2
        obtain ⟨v3, z1⟩ := e296w (n := n) (x := nM) hn hW
        exact hbad hW (sx_pI (sx_pI sx_rfl (by decide)) (by decide)) (step y1 (e293n h2 e2 (by decide) (by decide)) z1)
      | some s =>
        have hs := fby_some e2
        have y2 := e293s (n := n) h2 e2 (by decide)
        rw [pI_pI] at y2
        have h3 := FCS_at (a' := p1.2 + 1) h (by omega)
        cases e3 : fVl b L s (p1.2 + 1) with
        | inl w3 =>
          have hp1 : fP1 b L a' = .inl w3 := by
            unfold fP1
            rw [e1]
            dsimp only
            rw [e2]
            dsimp only
            rw [e3]
          rw [hfn, hp1]
          refine ⟨fun p hp => (by cases hp), fun w hw => ?_⟩
          cases hw
          obtain ⟨v3, d, z1, z2, z3⟩ := e296n hn h3 ⟨hs.2.1, hs.2.2.1⟩ e3
          exact hbad z2 (sx_trans (sx_pI sx_rfl (by decide)) z3) (step y1 y2 z1)
        | inr q =>
          have hp1 : fP1 b L a' = .inr ((p1.1, s, q.1), q.2) := by
            unfold fP1
            rw [e1]
            dsimp only
            rw [e2]
            dsimp only
            rw [e3]
          have hq := (fVl_b (b := b) (s := s) (a := p1.2 + 1) (L := L) (by omega)).2 e3
          have y3 := e296s hn h3 ⟨hs.2.1, hs.2.2.1⟩ e3
          rw [pI_pI] at y3
          rw [hfn, hp1, whl_in (step y1 y2 y3)]
          have ih := fp_lp1 hn h r (k + 1) q.2 y (l ++ [(p1.1, s, q.1)]) (by omega) (by omega) (by omega)
          rw [show k + 1 + r = k + (r + 1) by omega] at ih
          exact ih
/-- one MARK, without a row -/
theorem e294s {p : (Int64 × Option (List (Int64 × Nat × Int64))) × Nat} (hn : 100 ≤ n) (h : FCS c b L a) (hf : fMkk b L a = .inr p) : d_294 n nM c = some (pI c 145 10 (nI p.2)) := by
  unfold fMkk at hf
  cases e1 : fNm b L a with
  | inl w =>
    rw [e1] at hf
    cases hf
  | inr p1 =>
    rw [e1] at hf
    dsimp only at hf
    have hb1 := (fNm_b (b := b) h.1).2 e1
    have y1 := e295s hn h e1
    have h2 := FCS_at h hb1.2
    rw [d294_s]
    refine eq_wp (wpe y1 ?_)
    refine no_c h2 ?_
    by_cases en : p1.2 < L ∧ b p1.2 = 255
    · rw [if_pos en] at hf ⊢
      cases hf
      have y2 := e293s (n := n) (lo := 255) (hi := 255) (x := 255) h2 (by unfold fby; rw [if_pos ⟨en.1, by omega, by omega⟩, en.2]) (by decide)
      rw [pI_pI] at y2
      refine wpj (wpf (by decide) (wpe y2 ?_))
      unfold h294
      refine wpj (wpf (by decide) ?_)
      unfold g294
      refine wpj (wpt (show (-1 : Int32) < 0 by decide) ?_)
      obtain ⟨y, hy⟩ : ∃ y, n = y + 1 := ⟨n - 1, by omega⟩
      have : whl (fpL n (nI 255) 1 (-1)) (y + 1) (0, pI c 145 10 (nI (p1.2 + 1))) = some (pI c 145 10 (nI (p1.2 + 1))) := whl_out (by
        unfold fpL
        dsimp only
        exact eq_wp (wpf (by decide) (wpf (by decide) rfl)))
      rw [← hy] at this
      exact wpe this rfl
    · rw [if_neg en] at hf ⊢
      cases e2 : fby b L 0 4 p1.2 with
      | none =>
        rw [e2] at hf
        cases hf
      | some k =>
        rw [e2] at hf
        dsimp only at hf
        have hk := fby_some e2
        cases e3 : fPl b L k (p1.2 + 1) [] with
        | inl w =>
          rw [e3] at hf
          cases hf
        | inr q =>
          rw [e3] at hf
          cases hf
          have y2 := e293s (n := n) h2 e2 (by decide)
          rw [pI_pI] at y2
          have y3 := (fp_lp1 hn h k 0 (p1.2 + 1) n [] (by omega) (by omega) (by omega)).1 q e3
          rw [Nat.zero_add] at y3
          refine wpj (wpt rfl (wpe y2 ?_))
          unfold h294
          refine wpj (wpf (by decide) ?_)
          unfold g294
          exact wpj (wpt (show (-1 : Int32) < 0 by decide) (wpe y3 rfl))
theorem g294_w {f : Int32} {v : Int32} (hn : 1 ≤ n) (h : FCW d w) : ∀ nm, h294 n nM nm f (v, d) = some d := by
  have key : ∀ nm, h294 n nM nm f (v, d) = some d := fun nm => by
    unfold h294
    refine eq_wp (wpj (wpf (by decide) ?_))
    unfold g294
    exact wpj (wpt (show (-1 : Int32) < 0 by decide) (wpe (fpL_w (k := 0) (by omega) h) rfl))
  exact key
theorem e294n (hn : 100 ≤ n) (h : FCS c b L a) (hf : fMkk b L a = .inl w) : ∃ d, d_294 n nM c = some d ∧ FCW d w ∧ sx q145f c d := by
  unfold fMkk at hf
  -- wherever it is wrong, the rest does nothing
  have hrest : ∀ {v1 : Int64} {d : cS} {w' : Nat}, FCW d w' → wp (jn (fun p3 : Int32 =>
    jn (h294 n nM v1 p3)
    (fun j69 =>
    if p3 = 0 then
      Option.bind (d_293 n 0 4 d) (fun r28 =>
      j69 (r28.1, r28.2))
    else
      Option.bind (d_293 n 255 255 d) (fun r29 =>
      j69 (r29.1, r29.2))))
  (fun j43 =>
  jn (fun p30 : Unit =>
    j43 0)
  (fun j42 =>
  if (d.1 145 11) ≤ (d.1 145 10) then
    j42 ()
  else
    if ib (d.1 145 10) 4000 then
    if ((d.1 2 (ix (d.1 145 10))) &&& 255) = 255 then
      j43 1
    else
      j42 ()
    else none))) (fun q => q = d) := fun {v1 d w'} hW => by
    have e : (d.1 145 11) ≤ (d.1 145 10) ∨ ib (d.1 145 10) 4000 := by
      obtain ⟨-, -, a1, L1, g1, g2, g3, g4⟩ := hW
      rw [g3, g4]
      by_cases e : L1 ≤ a1
      · exact Or.inl (nI_le e (by omega))
      · exact Or.inr (ib_n (by omega) (by decide))
    · refine wpj (wpj ?_)
      have f0 : wp (jn (h294 n nM v1 0) (fun j69 =>
        if (0 : Int32) = 0 then
          Option.bind (d_293 n 0 4 d) (fun r28 => j69 (r28.1, r28.2))
        else
          Option.bind (d_293 n 255 255 d) (fun r29 => j69 (r29.1, r29.2)))) (fun q => q = d) := wpj (wpt rfl (wpe (e293w hW) (wp_of (g294_w (by omega) hW _) rfl)))
      have f1 : wp (jn (h294 n nM v1 1) (fun j69 =>
        if (1 : Int32) = 0 then
          Option.bind (d_293 n 0 4 d) (fun r28 => j69 (r28.1, r28.2))
        else
          Option.bind (d_293 n 255 255 d) (fun r29 => j69 (r29.1, r29.2)))) (fun q => q = d) := wpj (wpf (by decide) (wpe (e293w hW) (wp_of (g294_w (by omega) hW _) rfl)))
      refine wpi (fun _ => f0) (fun z => ?_)
      rcases e with y | y
      · exact absurd y z
      · exact wpt y (wpi (fun _ => f1) (fun _ => f0))
  cases e1 : fNm b L a with
  | inl w1 =>
    rw [e1] at hf
    cases hf
    obtain ⟨v1, d, y1, y2, y3⟩ := e295n hn h e1
    exact ⟨d, by rw [d294_s]; exact eq_wp (wpe y1 (hrest (v1 := v1) y2)), y2, y3⟩
  | inr p1 =>
    rw [e1] at hf
    dsimp only at hf
    have hb1 := (fNm_b (b := b) h.1).2 e1
    have y1 := e295s hn h e1
    have h2 := FCS_at h hb1.2
    by_cases en : p1.2 < L ∧ b p1.2 = 255
    · rw [if_pos en] at hf
      cases hf
    · rw [if_neg en] at hf
      have hpre : ∀ {d : cS}, wp (jn (h294 n nM p1.1 0) (fun j69 =>
        if (0 : Int32) = 0 then
          Option.bind (d_293 n 0 4 (pI c 145 10 (nI p1.2))) (fun r28 => j69 (r28.1, r28.2))
        else
          Option.bind (d_293 n 255 255 (pI c 145 10 (nI p1.2))) (fun r29 => j69 (r29.1, r29.2)))) (fun q => q = d) → d_294 n nM c = some d := fun {d} z => by
        rw [d294_s]
        refine eq_wp (wpe y1 (no_c h2 ?_))
        rw [if_neg en]
        exact z
      cases e2 : fby b L 0 4 p1.2 with
      | none =>
        rw [e2] at hf
        cases hf
        have hW := FCW_of h2 hb1.2
        exact ⟨_, hpre (wpj (wpt rfl (wpe (e293n h2 e2 (by decide) (by decide)) (wp_of (g294_w (by omega) hW _) rfl)))), hW, sx_pI (sx_pI sx_rfl (by decide)) (by decide)⟩
      | some k =>
        rw [e2] at hf
        dsimp only at hf
        have hk := fby_some e2
        cases e3 : fPl b L k (p1.2 + 1) [] with
        | inr q =>
          rw [e3] at hf
          cases hf
        | inl w3 =>
          rw [e3] at hf
          cases hf
          have y2 := e293s (n := n) h2 e2 (by decide)
          rw [pI_pI] at y2
          obtain ⟨d, z1, z2, z3⟩ := (fp_lp1 hn h k 0 (p1.2 + 1) n [] (by omega) (by omega) (by omega)).2 w e3
          rw [Nat.zero_add] at z1
          refine ⟨d, hpre (wpj (wpt rfl (wpe y2 ?_))), z2, z3⟩
          unfold h294
          refine wpj (wpf (by decide) ?_)
          unfold g294
          exact wpj (wpt (show (-1 : Int32) < 0 by decide) (wpe z1 rfl))
end FLMS
