/-! A FILE: the reference reads PAIRS and MARKS -/
section FLPS
variable {n a L w lo hi x y K : Nat} {b : Nat → Nat} {u d e0 : cS}
/-! ints -/
def iuL (n : Nat) (s15 : Int32 × Int32 × cS) : Option ((Int32 × Int32 × cS) ⊕ (Int32 × cS)) :=
      if 4 ≤ s15.2.1 then
        some (.inr (s15.1, s15.2.2))
      else
        Option.bind (d_433 n 0 255 s15.2.2) (fun r16 =>
        lt (((s15.1 <<< (8 &&& 31)) ||| r16.1) : Int32) (fun v18 =>
        lt (s15.2.1 + 1 : Int32) (fun v21 =>
        some (.inl (v18, v21, r16.2)))))
theorem iuL_w (h : FUW d w) : ∀ (r k m : Nat) (v : Int32), k + r = 4 → r < m → ∃ v', whl (iuL n) m (v, nI k, d) = some (v', d)
  | 0, k, m, v, hk, hm => by
    obtain ⟨y, rfl⟩ : ∃ y, m = y + 1 := ⟨m - 1, by omega⟩
    refine ⟨v, whl_out ?_⟩
    unfold iuL
    dsimp only
    rw [show k = 4 by omega]
    exact eq_wp (wpt (by decide) rfl)
  | r + 1, k, m, v, hk, hm => by
    obtain ⟨y, rfl⟩ : ∃ y, m = y + 1 := ⟨m - 1, by omega⟩
    obtain ⟨v', ih⟩ := iuL_w h r (k + 1) y ((v <<< (8 &&& 31)) ||| 0) (by omega) (by omega)
    refine ⟨v', (whl_in ?_).trans ih⟩
    unfold iuL
    dsimp only
    refine eq_wp (wpf (by simp (disch := first | omega | decide) only [↓neg1, nlit, rI, rL, rI2, rL1, nI_add, pk_mul, sbT, dvT, nmd, ixT, ↓ibT, ltT, ltF, leT, leF, eqT, eqF, nM_ltT, nM_ltF, nM_leT, nM_leF, nM_eqF, nM_eqF', nbT0, nbT1, oI_s, oI_n, natF, natT, nltT, nltF, nleT, nleF, ↓reduceIte, lgc, not_true_eq_false, not_false_eq_true, or_false, false_or, or_true, true_or, and_true, true_and, and_false, false_and, ne_eq, eq_self, or_self, and_self]) (wpe (e433w h) (wpl (wpl ?_))))
    rw [nI_1]
    rfl
theorem iu_lp (h : FUS u b L a) : ∀ (r k a' m : Nat) (v : Int32), k + r = 4 → a' ≤ L → r < m → (∀ p, fIl b L r a' v = .inr p → whl (iuL n) m (v, nI k, pI u 174 80 (nI a')) = some (p.1, pI u 174 80 (nI p.2))) ∧ (∀ w, fIl b L r a' v = .inl w → ∃ v' d, whl (iuL n) m (v, nI k, pI u 174 80 (nI a')) = some (v', d) ∧ FUW d w ∧ sx q80 u d)
  | 0, k, a', m, v, hk, ha, hm => by
    obtain ⟨y, rfl⟩ : ∃ y, m = y + 1 := ⟨m - 1, by omega⟩
    refine ⟨fun p hp => ?_, fun w hw => by cases hw⟩
    cases hp
    refine whl_out ?_
    unfold iuL
    dsimp only
    rw [show k = 4 by omega]
    exact eq_wp (wpt (by decide) rfl)
  | r + 1, k, a', m, v, hk, ha, hm => by
    obtain ⟨y, rfl⟩ : ∃ y, m = y + 1 := ⟨m - 1, by omega⟩
    have h' := FUS_at h ha
    obtain ⟨c1, hc1⟩ : ∃ c1, c1 = pI u 174 80 (nI a') := ⟨_, rfl⟩
    rw [← hc1] at h' ⊢
    by_cases e : a' < L
    · have hb := (h'.2.2.2.2.2 a' e).1
      have hf : fby b L 0 255 a' = some (b a') := if_pos ⟨e, by omega, by omega⟩
      have h433 := e433s (n := n) h' hf (by decide)
      rw [hc1, pI_pI] at h433
      rw [← hc1] at h433
      have hst : iuL n (v, nI k, c1) = some (.inl ((v <<< (8 &&& 31)) ||| nI (b a'), nI (k + 1), pI u 174 80 (nI (a' + 1)))) := by
        unfold iuL
        dsimp only
        refine eq_wp (wpf (by simp (disch := first | omega | decide) only [↓neg1, nlit, rI, rL, rI2, rL1, nI_add, pk_mul, sbT, dvT, nmd, ixT, ↓ibT, ltT, ltF, leT, leF, eqT, eqF, nM_ltT, nM_ltF, nM_leT, nM_leF, nM_eqF, nM_eqF', nbT0, nbT1, oI_s, oI_n, natF, natT, nltT, nltF, nleT, nleF, ↓reduceIte, lgc, not_true_eq_false, not_false_eq_true, or_false, false_or, or_true, true_or, and_true, true_and, and_false, false_and, ne_eq, eq_self, or_self, and_self]) (wpe h433 (wpl (wpl ?_))))
        rw [nI_1]
        rfl
      have hfn : fIl b L (r + 1) a' v = fIl b L r (a' + 1) ((v <<< (8 &&& 31)) ||| nI (b a')) := by
        show (if _ then _ else _) = _
        rw [if_pos e]
      rw [hfn, whl_in hst]
      exact iu_lp h r (k + 1) (a' + 1) y _ (by omega) (by omega) (by omega)
    · have hfn : fIl b L (r + 1) a' v = .inl a' := by
        show (if _ then _ else _) = _
        rw [if_neg e]
      rw [hfn]
      refine ⟨fun p hp => (by cases hp), fun w hw => ?_⟩
      cases hw
      obtain ⟨h433, hW⟩ := e433n (n := n) h' (show fby b L 0 255 a' = none from if_neg (fun z => e z.1)) (by decide) (by decide)
      obtain ⟨v', ih⟩ := iuL_w (n := n) hW r (k + 1) y ((v <<< (8 &&& 31)) ||| 0) (by omega) (by omega)
      refine ⟨v', pI c1 174 82 (nI 1), (whl_in ?_).trans ih, hW, ?_⟩
      · unfold iuL
        dsimp only
        refine eq_wp (wpf (by simp (disch := first | omega | decide) only [↓neg1, nlit, rI, rL, rI2, rL1, nI_add, pk_mul, sbT, dvT, nmd, ixT, ↓ibT, ltT, ltF, leT, leF, eqT, eqF, nM_ltT, nM_ltF, nM_leT, nM_leF, nM_eqF, nM_eqF', nbT0, nbT1, oI_s, oI_n, natF, natT, nltT, nltF, nleT, nleF, ↓reduceIte, lgc, not_true_eq_false, not_false_eq_true, or_false, false_or, or_true, true_or, and_true, true_and, and_false, false_and, ne_eq, eq_self, or_self, and_self]) (wpe h433 (wpl (wpl ?_))))
        rw [nI_1]
        rfl
      · rw [hc1]
        exact sx_pI (sx_pI sx_rfl (by decide)) (by decide)
/-! PAIRS -/
def g436 (n : Nat) (a1 : Int32) (nm : Int64) (s : Int32) (p6 : Int64 × cS) : Option cS :=
    jn (fun p7 : cS =>
      some p7)
    (fun j108 =>
    if (p6.2.1 174 82) = 0 then
      Option.bind (d_394 n a1 nm s p6.1 p6.2) (fun r8 =>
      j108 r8)
    else
      j108 p6.2)
theorem d436_s {a1 : Int32} : d_436 n a1 u = Option.bind (d_434 n u) (fun r1 =>
  Option.bind (d_433 n 1 3 r1.2) (fun r3 =>
  jn (g436 n a1 r1.1 r3.1)
  (fun j91 =>
  if r3.1 = 1 then
    Option.bind (whl (iuL n) n (0, 0, r3.2))
    (fun x23 : Int32 × cS =>
      lt ((x23.1 : Int32).toInt64 : Int64) (fun v25 =>
      j91 (v25, x23.2)))
  else
    if r3.1 = 2 then
      Option.bind (d_435 n r3.2) (fun r11 =>
      j91 (r11.1, r11.2))
    else
      if r3.1 = 3 then
        Option.bind (d_434 n r3.2) (fun r9 =>
        j91 (r9.1, r9.2))
      else
        j91 (0, r3.2)))) := rfl
def PUl (u : cS) (y : Nat) (l : List (Int64 × Nat × Int64)) : Prop := u.1 225 y = nI l.length ∧ ∀ q e, l[q]? = some e → u.2 226 (y * 4 + q) = e.1 ∧ u.1 227 (y * 4 + q) = nI e.2.1 ∧ u.2 228 (y * 4 + q) = e.2.2
theorem valf_r {s : Nat} {nm : Int64} {a1 : Int32} {Q : cS → Prop} (hn : 100 ≤ n) (h : FUS u b L a) (hs : 1 ≤ s ∧ s ≤ 3) (h1 : ∀ p, fVl b L s a = .inr p → wp (g436 n a1 nm (nI s) (p.1, pI u 174 80 (nI p.2))) Q) (h2 : ∀ w v d, fVl b L s a = .inl w → FUW d w → sx q80 u d → wp (g436 n a1 nm (nI s) (v, d)) Q) : wp (jn (g436 n a1 nm (nI s))
  (fun j91 =>
  if nI s = 1 then
    Option.bind (whl (iuL n) n (0, 0, u))
    (fun x23 : Int32 × cS =>
      lt ((x23.1 : Int32).toInt64 : Int64) (fun v25 =>
      j91 (v25, x23.2)))
  else
    if nI s = 2 then
      Option.bind (d_435 n u) (fun r11 =>
      j91 (r11.1, r11.2))
    else
      if nI s = 3 then
        Option.bind (d_434 n u) (fun r9 =>
        j91 (r9.1, r9.2))
      else
        j91 (0, u))) Q := by
  unfold fVl at h1 h2
  refine wpj ?_
  by_cases e1 : s = 1
  · rw [if_pos e1] at h1 h2
    have il := iu_lp (n := n) h 4 0 a n 0 (by omega) h.1 (by omega)
    rw [FUS_self h] at il
    refine wpt (by rw [e1]; rfl) ?_
    cases e : fIl b L 4 a 0 with
    | inl w =>
      obtain ⟨v', d, z1, z2, z3⟩ := il.2 w e
      rw [e] at h2
      exact wpe z1 (wpl (h2 w _ d rfl z2 z3))
    | inr q =>
      rw [e] at h1
      exact wpe (il.1 q e) (wpl (h1 (q.1.toInt64, q.2) rfl))
  · rw [if_neg e1] at h1 h2
    refine wpf (by simp (disch := first | omega | decide) only [↓neg1, nlit, rI, rL, rI2, rL1, nI_add, pk_mul, sbT, dvT, nmd, ixT, ↓ibT, ltT, ltF, leT, leF, eqT, eqF, nM_ltT, nM_ltF, nM_leT, nM_leF, nM_eqF, nM_eqF', nbT0, nbT1, oI_s, oI_n, natF, natT, nltT, nltF, nleT, nleF, ↓reduceIte, lgc, not_true_eq_false, not_false_eq_true, or_false, false_or, or_true, true_or, and_true, true_and, and_false, false_and, ne_eq, eq_self, or_self, and_self]) ?_
    by_cases e2 : s = 2
    · rw [if_pos e2] at h1 h2
      refine wpt (by rw [e2]; rfl) ?_
      cases e : fTx b L a with
      | inl w =>
        obtain ⟨v', d, z1, z2, z3⟩ := e435n hn h e
        exact wpe z1 (h2 w _ d e z2 z3)
      | inr q => exact wpe (e435s hn h e) (h1 q e)
    · rw [if_neg e2] at h1 h2
      refine wpf (by simp (disch := first | omega | decide) only [↓neg1, nlit, rI, rL, rI2, rL1, nI_add, pk_mul, sbT, dvT, nmd, ixT, ↓ibT, ltT, ltF, leT, leF, eqT, eqF, nM_ltT, nM_ltF, nM_leT, nM_leF, nM_eqF, nM_eqF', nbT0, nbT1, oI_s, oI_n, natF, natT, nltT, nltF, nleT, nleF, ↓reduceIte, lgc, not_true_eq_false, not_false_eq_true, or_false, false_or, or_true, true_or, and_true, true_and, and_false, false_and, ne_eq, eq_self, or_self, and_self]) (wpt (by rw [show s = 3 by omega]; rfl) ?_)
      cases e : fNm b L a with
      | inl w =>
        obtain ⟨v', d, z1, z2, z3⟩ := e434n hn h e
        exact wpe z1 (h2 w _ d e z2 z3)
      | inr q => exact wpe (e434s hn h e) (h1 q e)
theorem g436_w {nm v : Int64} {a1 s : Int32} (h : FUW d w) : g436 n a1 nm s (v, d) = some d := by
  unfold g436
  exact eq_wp (wpj (wpf (ne82 h) rfl))
theorem e436s {z : (Int64 × Nat × Int64) × Nat} {l : List (Int64 × Nat × Int64)} (hn : 100 ≤ n) (h : FUS u b L a) (hy : y < 24380) (hl : l.length < 4) (hP : PUl u y l) (hf : fP1 b L a = .inr z) : d_436 n (nI y) u = some (adR (pI u 174 80 (nI z.2)) y l.length z.1.1 (nI z.1.2.1) z.1.2.2) := by
  unfold fP1 at hf
  cases e1 : fNm b L a with
  | inl w =>
    rw [e1] at hf
    cases hf
  | inr p1 =>
    rw [e1] at hf
    dsimp only at hf
    have hb1 := (fNm_b (b := b) h.1).2 e1
    have h2 := FUS_at h hb1.2
    cases e2 : fby b L 1 3 p1.2 with
    | none =>
      rw [e2] at hf
      cases hf
    | some s =>
      rw [e2] at hf
      dsimp only at hf
      have hs := fby_some e2
      have y2 := e433s (n := n) h2 e2 (by decide)
      rw [pI_pI] at y2
      have h3 := FUS_at (a' := p1.2 + 1) h (by omega)
      rw [d436_s]
      refine eq_wp (wpe (e434s hn h e1) (wpe y2 (valf_r hn h3 ⟨hs.2.1, hs.2.2.1⟩ (fun q hq => ?_) (fun w v d hw _ _ => ?_))))
      · rw [hq] at hf
        cases hf
        rw [pI_pI]
        unfold g436
        refine wpj (wpt ?_ (wpe (e394 hy hl (by rw [rI, if_neg (by omega)]; exact hP.1)) rfl))
        dsimp only
        rw [rI, if_neg (by omega)]
        exact h.2.2.2.2.1
      · rw [hw] at hf
        cases hf
theorem e436n {a1 : Int32} (hn : 100 ≤ n) (h : FUS u b L a) (hf : fP1 b L a = .inl w) : ∃ d, d_436 n a1 u = some d ∧ FUW d w ∧ sx q80 u d := by
  unfold fP1 at hf
  have hwr : ∀ {v1 : Int64} {d : cS} {w' : Nat} {Q : cS → Prop}, FUW d w' → Q d → wp (Option.bind (d_433 n 1 3 d) (fun r3 =>
  jn (g436 n a1 v1 r3.1)
  (fun j91 =>
  if r3.1 = 1 then
    Option.bind (whl (iuL n) n (0, 0, r3.2))
    (fun x23 : Int32 × cS =>
      lt ((x23.1 : Int32).toInt64 : Int64) (fun v25 =>
      j91 (v25, x23.2)))
  else
    if r3.1 = 2 then
      Option.bind (d_435 n r3.2) (fun r11 =>
      j91 (r11.1, r11.2))
    else
      if r3.1 = 3 then
        Option.bind (d_434 n r3.2) (fun r9 =>
        j91 (r9.1, r9.2))
      else
        j91 (0, r3.2)))) Q := fun {v1 d w' Q} hW hQ => wpe (e433w hW) (wpj (wpf (show ¬ (0 : Int32) = 1 by decide) (wpf (show ¬ (0 : Int32) = 2 by decide) (wpf (show ¬ (0 : Int32) = 3 by decide) (wp_of (g436_w hW) hQ)))))
  cases e1 : fNm b L a with
  | inl w1 =>
    rw [e1] at hf
    cases hf
    obtain ⟨v1, d, y1, y2, y3⟩ := e434n hn h e1
    exact ⟨d, by rw [d436_s]; exact eq_wp (wpe y1 (hwr y2 rfl)), y2, y3⟩
  | inr p1 =>
    rw [e1] at hf
    dsimp only at hf
    have hb1 := (fNm_b (b := b) h.1).2 e1
    have h2 := FUS_at h hb1.2
    cases e2 : fby b L 1 3 p1.2 with
    | none =>
      rw [e2] at hf
      cases hf
      obtain ⟨h433, hW⟩ := e433n (n := n) h2 e2 (by decide) (by decide)
      refine ⟨_, ?_, hW, sx_pI (sx_pI sx_rfl (by decide)) (by decide)⟩
      rw [d436_s]
      exact eq_wp (wpe (e434s hn h e1) (wpe h433 (wpj (wpf (show ¬ (0 : Int32) = 1 by decide) (wpf (show ¬ (0 : Int32) = 2 by decide) (wpf (show ¬ (0 : Int32) = 3 by decide) (wp_of (g436_w hW) rfl)))))))
    | some s =>
      rw [e2] at hf
      dsimp only at hf
      have hs := fby_some e2
      have y2 := e433s (n := n) h2 e2 (by decide)
      rw [pI_pI] at y2
      have h3 := FUS_at (a' := p1.2 + 1) h (by omega)
      cases e3 : fVl b L s (p1.2 + 1) with
      | inr q =>
        rw [e3] at hf
        cases hf
      | inl w3 =>
        rw [e3] at hf
        cases hf
        have key : wp (d_436 n a1 u) (fun d => FUW d w ∧ sx q80 u d) := by
          rw [d436_s]
          refine wpe (e434s hn h e1) (wpe y2 (valf_r hn h3 ⟨hs.2.1, hs.2.2.1⟩ (fun q hq => ?_) (fun w' v d hw z1 z2 => ?_)))
          · rw [e3] at hq
            cases hq
          · rw [e3] at hw
            cases hw
            exact wp_of (g436_w z1) ⟨z1, sx_trans (sx_pI sx_rfl (by decide)) z2⟩
        exact wp_ex key
theorem adR_14 {p : Nat} {nm v : Int64} {s : Int32} : (adR u y p nm s v).1 174 = u.1 174 ∧ (adR u y p nm s v).1 175 = u.1 175 := by
  constructor
  · funext l
    unfold adR
    rw [rI, if_neg (by omega)]
    show (pI (pL u 226 (y * 4 + p) nm) 227 (y * 4 + p) s).1 174 l = _
    rw [rI, if_neg (by omega)]
    rfl
  · funext l
    unfold adR
    rw [rI, if_neg (by omega)]
    show (pI (pL u 226 (y * 4 + p) nm) 227 (y * 4 + p) s).1 175 l = _
    rw [rI, if_neg (by omega)]
    rfl
theorem FUS_ad {p : Nat} {nm v : Int64} {s : Int32} (h : FUS u b L a) : FUS (adR u y p nm s v) b L a := by
  obtain ⟨h1, h2, h3, h4, h5, h6⟩ := h
  obtain ⟨g1, g2⟩ := adR_14 (u := u) (y := y) (p := p) (nm := nm) (s := s) (v := v)
  exact ⟨h1, h2, by rw [g1]; exact h3, by rw [g1]; exact h4, by rw [g1]; exact h5, fun j hj => by rw [g2]; exact h6 j hj⟩
theorem PUl_ad {l : List (Int64 × Nat × Int64)} {e : Int64 × Nat × Int64} (h : PUl u y l) : PUl (adR u y l.length e.1 (nI e.2.1) e.2.2) y (l ++ [e]) := by
  obtain ⟨h1, h2⟩ := h
  have g := fun j => adR_at (u := u) (y := y) (p := l.length) (nm := e.1) (s := nI e.2.1) (v := e.2.2) (j := j)
  refine ⟨?_, fun q z hz => ?_⟩
  · rw [(g 0).2.2.2, List.length_append, List.length_singleton]
  · rw [(g _).1, (g _).2.1, (g _).2.2.1]
    by_cases eq : q < l.length
    · rw [List.getElem?_append_left eq] at hz
      rw [if_neg (by omega), if_neg (by omega), if_neg (by omega)]
      exact h2 q z hz
    · rw [List.getElem?_append_right (by omega)] at hz
      have e0 : q - l.length = 0 := by
        by_cases y : q - l.length = 0
        · exact y
        · rw [List.getElem?_eq_none (by simp; omega)] at hz
          cases hz
      rw [e0] at hz
      cases hz
      rw [if_pos (by omega), if_pos (by omega), if_pos (by omega)]
      exact ⟨rfl, rfl, rfl⟩
theorem PUl_at {l : List (Int64 × Nat × Int64)} {v : Int32} (h : PUl u y l) : PUl (pI u 174 80 v) y l := ⟨by rw [rI, if_neg (by omega)]; exact h.1, fun q e he => by rw [rI, if_neg (by omega)]; exact h.2 q e he⟩
def puL (n : Nat) (p23 p21 k : Int32) (s27 : Int32 × cS) : Option ((Int32 × cS) ⊕ cS) :=
                  if p23 ≤ s27.1 then
                    some (.inr s27.2)
                  else
                    if p21 = 0 then
                      if (s27.2.1 174 82) = 0 then
                        Option.bind (d_392 n 1218 k) (fun v28 =>
                        Option.bind (d_436 n v28 s27.2) (fun r29 =>
                        lt (s27.1 + 1 : Int32) (fun v31 =>
                        some (.inl (v31, r29)))))
                      else
                        some (.inr s27.2)
                    else
                      some (.inr s27.2)
theorem puL_w {v p3 p7 : Int32} {k m : Nat} (hm : 0 < m) (h : FUW d w) : whl (puL n v p3 p7) m (nI k, d) = some d := by
  obtain ⟨y, rfl⟩ : ∃ y, m = y + 1 := ⟨m - 1, by omega⟩
  refine whl_out ?_
  unfold puL
  dsimp only
  exact eq_wp (wpi (fun _ => rfl) (fun _ => wpi (fun _ => wpf (ne82 h) rfl) (fun _ => rfl)))
def qPu (y A l : Nat) : Bool := decide ((A = 174 ∧ (l = 80 ∨ l = 82)) ∨ (A = 225 ∧ l = y) ∨ (226 ≤ A ∧ A ≤ 228 ∧ y * 4 ≤ l ∧ l < y * 4 + 4))
theorem adR_sx2 {y p : Nat} {nm v : Int64} {s : Int32} (hp : p < 4) : sx (qPu y) u (adR u y p nm s v) := sx_pI (sx_pL (sx_pI (sx_pL sx_rfl (decide_eq_true (by omega))) (decide_eq_true (by omega))) (decide_eq_true (by omega))) (decide_eq_true (by omega))
theorem e392f {k : Nat} : d_392 n 1218 (nI k) = some (nI (1218 * 20 + k)) := by
  unfold d_392
  rw [show (1218 : Int32) = nI 1218 from rfl, show (20 : Int32) = nI 20 from rfl, pk_mul, nI_add]
theorem pu_lp (hn : 100 ≤ n) {kk : Nat} (hkk : kk < 20) (hy : y = 1218 * 20 + kk) : ∀ (r k a m : Nat) (l : List (Int64 × Nat × Int64)) (u : cS), k + r ≤ 4 → l.length = k → r + 1 < m → FUS u b L a → PUl u y l → (∀ p, fPl b L r a l = .inr p → ∃ d, whl (puL n (nI (k + r)) 0 (nI kk)) m (nI k, u) = some d ∧ FUS d b L p.2 ∧ PUl d y p.1 ∧ sx (qPu y) u d) ∧ (∀ w, fPl b L r a l = .inl w → ∃ d, whl (puL n (nI (k + r)) 0 (nI kk)) m (nI k, u) = some d ∧ FUW d w ∧ sx (qPu y) u d)
  | 0, k, a, m, l, u, hk, hl, hm, h, hP => by
    obtain ⟨z, rfl⟩ : ∃ z, m = z + 1 := ⟨m - 1, by omega⟩
    refine ⟨fun p hp => ?_, fun w hw => by cases hw⟩
    cases hp
    refine ⟨u, whl_out ?_, h, hP, sx_rfl⟩
    unfold puL
    dsimp only
    exact eq_wp (wpt (by simp (disch := first | omega | decide) only [↓neg1, nlit, rI, rL, rI2, rL1, nI_add, pk_mul, sbT, dvT, nmd, ixT, ↓ibT, ltT, ltF, leT, leF, eqT, eqF, nM_ltT, nM_ltF, nM_leT, nM_leF, nM_eqF, nM_eqF', nbT0, nbT1, oI_s, oI_n, natF, natT, nltT, nltF, nleT, nleF, ↓reduceIte, lgc, not_true_eq_false, not_false_eq_true, or_false, false_or, or_true, true_or, and_true, true_and, and_false, false_and, ne_eq, eq_self, or_self, and_self]) rfl)
  | r + 1, k, a, m, l, u, hk, hl, hm, h, hP => by
    obtain ⟨t, rfl⟩ : ∃ t, m = t + 1 := ⟨m - 1, by omega⟩
    have hfn : fPl b L (r + 1) a l = match fP1 b L a with
      | .inl w => .inl w
      | .inr p => fPl b L r p.2 (l ++ [p.1]) := rfl
    have step : ∀ {d1 : cS}, d_436 n (nI y) u = some d1 → puL n (nI (k + (r + 1))) 0 (nI kk) (nI k, u) = some (.inl (nI (k + 1), d1)) := fun {d1} y1 => by
      unfold puL
      dsimp only
      rw [hy] at y1
      refine eq_wp (wpf (by simp (disch := first | omega | decide) only [↓neg1, nlit, rI, rL, rI2, rL1, nI_add, pk_mul, sbT, dvT, nmd, ixT, ↓ibT, ltT, ltF, leT, leF, eqT, eqF, nM_ltT, nM_ltF, nM_leT, nM_leF, nM_eqF, nM_eqF', nbT0, nbT1, oI_s, oI_n, natF, natT, nltT, nltF, nleT, nleF, ↓reduceIte, lgc, not_true_eq_false, not_false_eq_true, or_false, false_or, or_true, true_or, and_true, true_and, and_false, false_and, ne_eq, eq_self, or_self, and_self]) (wpt rfl (wpt h.2.2.2.2.1 (wpe e392f (wpe y1 (wpl ?_))))))
      rw [nI_1]
      rfl
    cases e0 : fP1 b L a with
    | inl w1 =>
      rw [hfn, e0]
      refine ⟨fun p hp => (by cases hp), fun w hw => ?_⟩
      cases hw
      obtain ⟨d, z1, z2, z3⟩ := e436n (a1 := nI y) hn h e0
      exact ⟨d, (whl_in (step z1)).trans (puL_w (by omega) z2), z2, sx_wide z3 (fun A l z => by
        have := of_decide_eq_false z
        exact decide_eq_false (by omega))⟩
    | inr z =>
      have hz := (fP1_b (b := b) h.1).2 e0
      have z1 := e436s (y := y) hn h (by omega) (by omega) hP e0
      have h4 := FUS_at (a' := z.2) h hz.2.1
      obtain ⟨g1, g2⟩ := pu_lp hn hkk hy r (k + 1) z.2 t (l ++ [z.1]) (adR (pI u 174 80 (nI z.2)) y l.length z.1.1 (nI z.1.2.1) z.1.2.2) (by omega) (by simp; omega) (by omega) (FUS_ad h4) (PUl_ad (e := z.1) (PUl_at hP))
      rw [show k + 1 + r = k + (r + 1) by omega] at g1 g2
      have s1 : sx (qPu y) u (adR (pI u 174 80 (nI z.2)) y l.length z.1.1 (nI z.1.2.1) z.1.2.2) := sx_trans (sx_pI sx_rfl (decide_eq_true (by omega))) (adR_sx2 (by omega))
      rw [hfn, e0, whl_in (step z1)]
      refine ⟨fun p hp => ?_, fun w hw => ?_⟩
      · obtain ⟨d, k1, k2, k3, k4⟩ := g1 p hp
        exact ⟨d, k1, k2, k3, sx_trans s1 k4⟩
      · obtain ⟨d, k1, k2, k3⟩ := g2 w hw
        exact ⟨d, k1, k2, sx_trans s1 k3⟩
end FLPS
