/-! FLOW: the reference follows a METHOD to the least solution -/
def qFl (M n a i : Nat) : Bool := decide ((a = 238 ∧ 640 * M ≤ i ∧ i < 640 * M + 16 * n) ∨ (a = 239 ∧ 40 * M ≤ i ∧ i < 40 * M + n) ∨ a = 240 ∨ (a = 174 ∧ i = 90))
theorem nP_qFl {M n : Nat} : nP (qFl M n) := by
  refine ⟨fun a i h => ?_, fun i h => ?_, fun i h => ?_, fun a i h1 h2 h3 => ?_, fun a i h1 h2 h3 => ?_⟩
  · have := PA_of h
    exact decide_eq_false (by omega)
  · have := PF_of h
    exact decide_eq_false (by omega)
  · exact decide_eq_false (by omega)
  · exact decide_eq_false (by omega)
  · exact decide_eq_false (by omega)
theorem qFl_c {M n j a i : Nat} (hj : j < n) (h : qFl M n a i = false) : qCm (40 * M + j) a i = false := by
  have := of_decide_eq_false h
  exact decide_eq_false (by omega)
theorem qFl_n {M n a i : Nat} (h : qFl M n a i = false) : q240 a i = false := by
  have := of_decide_eq_false h
  exact decide_eq_false (by omega)
theorem RX_240 {u w : cS} {M k : Nat} (hw : sx q240 u w) : RX w M k = RX u M k := by
  have h2 : rxv w (40 * M + k) = rxv u (40 * M + k) := by
    funext s
    unfold rxv
    rw [hw.1 238 _ rfl]
  unfold RX
  rw [hw.1 239 _ rfl, h2]
theorem RI_240 {u w m : cS} {o M : Nat} {K ent : Nat → Nat} (hw : sx q240 u w) (h : RI m o M K ent u) : RI m o M K ent w := by
  have hx : RX w M = RX u M := funext fun k => RX_240 hw
  obtain ⟨i1, i2, i3, i4, i5⟩ := h
  unfold RI
  rw [hx, hw.1 174 90 rfl]
  refine ⟨fun i hi => ?_, i2, i3, i4, i5⟩
  have hr : ∀ s, rxv w (40 * M + i) s = rxv u (40 * M + i) s := by
    intro s
    unfold rxv
    rw [hw.1 238 _ rfl]
  rw [hw.1 239 _ rfl]
  refine ⟨(i1 i hi).1, fun e s hs => ?_⟩
  rw [hr, hw.1 238 _ rfl]
  exact (i1 i hi).2 e s hs
def EDR (m : cS) (o M : Nat) (K : Nat → Nat) (X : Nat → Option (Nat → Nat)) (i : Nat) : Prop := ∀ f, X i = some f → (goesN m (40 * M + i) → ∃ h, X (i + 1) = some h ∧ lfF m o (8 + dpb m (40 * M + i)) (trN m o K (40 * M + i) f) h) ∧ (∀ t, m.1 216 (40 * M + i) = nI t → t < acn m M → ∃ h, X t = some h ∧ lfF m o (8 + dpb m (40 * M + i)) (trL m o K (40 * M + i) f) h)
/-- unmoved and the same, or moved and nearer to the top -/
def MOV (m : cS) (o M : Nat) (u w : cS) : Prop := (w.1 174 90 = u.1 174 90 ∧ ∀ k, RX w M k = RX u M k) ∨ (w.1 174 90 = nI 1 ∧ potT m o M (RX w M) < potT m o M (RX u M))
theorem MOV_rfl {m u : cS} {o M : Nat} : MOV m o M u u := Or.inl ⟨rfl, fun _ => rfl⟩
theorem MOV_tr {m u v w : cS} {o M : Nat} (h1 : MOV m o M u v) (h2 : MOV m o M v w) : MOV m o M u w := by
  rcases h1 with ⟨a1, a2⟩ | ⟨a1, a2⟩
  · rcases h2 with ⟨b1, b2⟩ | ⟨b1, b2⟩
    · exact Or.inl ⟨b1.trans a1, fun k => (b2 k).trans (a2 k)⟩
    · refine Or.inr ⟨b1, ?_⟩
      rwa [show RX v M = RX u M from funext a2] at b2
  · rcases h2 with ⟨b1, b2⟩ | ⟨b1, b2⟩
    · refine Or.inr ⟨b1.trans a1, ?_⟩
      rwa [show RX w M = RX v M from funext b2]
    · exact Or.inr ⟨b1, by omega⟩
theorem MOV_240 {m u w : cS} {o M : Nat} (hw : sx q240 u w) : MOV m o M u w := Or.inl ⟨hw.1 174 90 rfl, fun _ => RX_240 hw⟩
/-- the copy of a STATE -/
theorem cpy {n b : Nat} {f : Nat → Nat} {x : cS} (hn : 1000 ≤ n) (hb : b < 3840) (hv : ∀ s, s < 16 → x.1 238 (16 * b + s) = nI (f s)) : wp (whl (R := (cS)) (fun s30 : Int32 × cS => if 16 ≤ s30.1 then some (.inr s30.2) else if ib ((16 * nI b) + s30.1) 61440 then if ib s30.1 16 then lt (pI s30.2 240 (ix s30.1) (s30.2.1 238 (ix ((16 * nI b) + s30.1)))) (fun c33 => lt (s30.1 + 1 : Int32) (fun v36 => some (.inl (v36, c33)))) else none else none) n (0, x)) (fun w => NOW w f ∧ sx q240 x w) := by
  refine whl_cnt (fun k (st : Int32 × cS) => st.1 = nI k ∧ (∀ s, s < k → st.2.1 240 s = nI (f s)) ∧ sx q240 x st.2) 16 ?_ ?_ (by omega) ⟨rfl, fun s hs => by omega, sx_rfl⟩
  · rintro k ⟨a, w⟩ hk ⟨g1, g2, g3⟩
    dsimp only at g1 g2 g3
    subst g1
    (try dsimp only); repeat (first | with_reducible refine wpl ?_ | with_reducible refine wpj ?_ | with_reducible refine wpSl ?_ | with_reducible refine wpSr ?_ | with_reducible refine wpS ?_ | ((with_reducible refine wpt ?_ ?_); · simp (disch := first | omega | decide) only [↓neg1, nlit, rI, rL, rI2, rL1, nI_add, pk_mul, sbT, dvT, nmd, ixT, ↓ibT, ltT, ltF, leT, leF, eqT, eqF, nM_ltT, nM_ltF, nM_leT, nM_leF, nM_eqF, nM_eqF', nbT0, nbT1, oI_s, oI_n, natF, natT, nltT, nltF, nleT, nleF, ↓reduceIte, lgc, not_true_eq_false, not_false_eq_true, or_false, false_or, or_true, true_or, and_true, true_and, and_false, false_and, ne_eq, eq_self, or_self, and_self]; done) | ((with_reducible refine wpf ?_ ?_); · simp (disch := first | omega | decide) only [↓neg1, nlit, rI, rL, rI2, rL1, nI_add, pk_mul, sbT, dvT, nmd, ixT, ↓ibT, ltT, ltF, leT, leF, eqT, eqF, nM_ltT, nM_ltF, nM_leT, nM_leF, nM_eqF, nM_eqF', nbT0, nbT1, oI_s, oI_n, natF, natT, nltT, nltF, nleT, nleF, ↓reduceIte, lgc, not_true_eq_false, not_false_eq_true, or_false, false_or, or_true, true_or, and_true, true_and, and_false, false_and, ne_eq, eq_self, or_self, and_self]; done))
    rw [show (16 : Int32) * nI b + nI k = nI (16 * b + k) by rw [show (16 : Int32) = nI 16 from rfl, pk_mul, nI_add], ix_n (by omega), ix_n (by omega), g3.1 238 _ rfl, hv k hk]
    refine ⟨nI_1 _, fun s hs => ?_, sx_pI g3 rfl⟩
    show (pI w 240 _ _).1 240 s = _
    rw [rI]
    by_cases e : s = k
    · rw [if_pos ⟨rfl, e⟩, e]
    · rw [if_neg (fun z => e z.2)]
      exact g2 s (by omega)
  · rintro ⟨a, w⟩ ⟨g1, g2, g3⟩
    dsimp only at g1 g2 g3
    subst g1
    (try dsimp only); repeat (first | with_reducible refine wpl ?_ | with_reducible refine wpj ?_ | with_reducible refine wpSl ?_ | with_reducible refine wpSr ?_ | with_reducible refine wpS ?_ | ((with_reducible refine wpt ?_ ?_); · simp (disch := first | omega | decide) only [↓neg1, nlit, rI, rL, rI2, rL1, nI_add, pk_mul, sbT, dvT, nmd, ixT, ↓ibT, ltT, ltF, leT, leF, eqT, eqF, nM_ltT, nM_ltF, nM_leT, nM_leF, nM_eqF, nM_eqF', nbT0, nbT1, oI_s, oI_n, natF, natT, nltT, nltF, nleT, nleF, ↓reduceIte, lgc, not_true_eq_false, not_false_eq_true, or_false, false_or, or_true, true_or, and_true, true_and, and_false, false_and, ne_eq, eq_self, or_self, and_self]; done) | ((with_reducible refine wpf ?_ ?_); · simp (disch := first | omega | decide) only [↓neg1, nlit, rI, rL, rI2, rL1, nI_add, pk_mul, sbT, dvT, nmd, ixT, ↓ibT, ltT, ltF, leT, leF, eqT, eqF, nM_ltT, nM_ltF, nM_leT, nM_leF, nM_eqF, nM_eqF', nbT0, nbT1, oI_s, oI_n, natF, natT, nltT, nltF, nleT, nleF, ↓reduceIte, lgc, not_true_eq_false, not_false_eq_true, or_false, false_or, or_true, true_or, and_true, true_and, and_false, false_and, ne_eq, eq_self, or_self, and_self]; done))
    exact ⟨g2, g3⟩
theorem wpjP {α β : Type} {k : α → Option β} {f : (α → Option β) → Option β} {Q : β → Prop} (P : α → Prop) (h1 : ∀ y, P y → wp (k y) Q) (h2 : ∀ k', (∀ y, P y → wp (k' y) Q) → wp (f k') Q) : wp (jn k f) Q := h2 k h1
theorem e456 {n M o : Nat} {K : Nat → Nat} {c m u : cS} (hn : 100000 ≤ n) (hA : AG m u) (hX : FX c m o M K) (hMK : MKS m K u) : wp (d_456 n (nI M) (nI o) u) (fun w => sx (qFl M (acn m M)) u w ∧ SOL m o M K (entV m o M K) (RX w M) ∧ RV m M w) := by
  have hM96 := isMt_lt hX.2.1 hX.2.2.2.1
  have hM := hX.2.2.2.1
  have hn40 := (FX_L hX).2.2.1
  have hn1 := (FX_L hX).2.2.2.1
  have hL := (FX_L hX).1
  have ho4 := hX.1.1
  have hl8 := (FX_L hX).2.1
  have hmt := (hX.2.2.1.2.1 M hM).1
  have h210 := hmt.2.1
  have hent : okF (eln m o) 8 (entV m o M K) := fun s hs => entV_lt hX
  have hr0 := RCH_0 hX.2.2.1 hM
  have hAs : ∀ w, sx (qFl M (acn m M)) u w → AG m w ∧ MKS m K w := by
    intro w hw
    refine ⟨AG_sx hA hw nP_qFl, fun p s hp hs => ?_⟩
    rw [hw.1 236 p (decide_eq_false (by omega))]
    exact hMK p s hp hs
  unfold d_456
  refine wpl ?_
  rw [show (40 : Int32) * nI M = nI (40 * M) from pk_mul 40 M]
  -- nothing is come to
  refine wpc (K' := fun w : cS => sx (qFl M (acn m M)) u w ∧ ∀ i, i < acn m M → w.1 239 (40 * M + i) = nI 0) (whl_cnt (fun k (st : Int32 × cS) => st.1 = nI k ∧ sx (qFl M (acn m M)) u st.2 ∧ ∀ i, i < k → st.2.1 239 (40 * M + i) = nI 0) (acn m M) ?_ ?_ (by omega) ⟨rfl, sx_rfl, fun i hi => by omega⟩) ?_
  · rintro k ⟨a, w⟩ hk ⟨g1, g2, g3⟩
    dsimp only at g1 g2 g3
    subst g1
    have p210 : w.1 210 M = nI (acn m M) := ((hAs w g2).1.1 210 M rfl).trans h210
    (try dsimp only); repeat (first | with_reducible refine wpl ?_ | with_reducible refine wpj ?_ | with_reducible refine wpSl ?_ | with_reducible refine wpSr ?_ | with_reducible refine wpS ?_ | ((with_reducible refine wpt ?_ ?_); · simp (disch := first | omega | decide) only [↓neg1, nlit, rI, rL, rI2, rL1, nI_add, pk_mul, sbT, dvT, nmd, ixT, ↓ibT, ltT, ltF, leT, leF, eqT, eqF, nM_ltT, nM_ltF, nM_leT, nM_leF, nM_eqF, nM_eqF', nbT0, nbT1, oI_s, oI_n, natF, natT, nltT, nltF, nleT, nleF, ↓reduceIte, lgc, not_true_eq_false, not_false_eq_true, or_false, false_or, or_true, true_or, and_true, true_and, and_false, false_and, ne_eq, eq_self, or_self, and_self, p210]; done) | ((with_reducible refine wpf ?_ ?_); · simp (disch := first | omega | decide) only [↓neg1, nlit, rI, rL, rI2, rL1, nI_add, pk_mul, sbT, dvT, nmd, ixT, ↓ibT, ltT, ltF, leT, leF, eqT, eqF, nM_ltT, nM_ltF, nM_leT, nM_leF, nM_eqF, nM_eqF', nbT0, nbT1, oI_s, oI_n, natF, natT, nltT, nltF, nleT, nleF, ↓reduceIte, lgc, not_true_eq_false, not_false_eq_true, or_false, false_or, or_true, true_or, and_true, true_and, and_false, false_and, ne_eq, eq_self, or_self, and_self, p210]; done))
    rw [nI_add, ix_n (by omega)]
    refine ⟨nI_1 _, sx_pI g2 (decide_eq_true (by omega)), fun i hi => ?_⟩
    show (pI w 239 _ _).1 239 _ = _
    rw [rI]
    by_cases e : i = k
    · rw [if_pos ⟨rfl, by omega⟩]
      decide
    · rw [if_neg (by omega)]
      exact g3 i (by omega)
  · rintro ⟨a, w⟩ ⟨g1, g2, g3⟩
    dsimp only at g1 g2 g3
    subst g1
    have p210 : w.1 210 M = nI (acn m M) := ((hAs w g2).1.1 210 M rfl).trans h210
    (try dsimp only); repeat (first | with_reducible refine wpl ?_ | with_reducible refine wpj ?_ | with_reducible refine wpSl ?_ | with_reducible refine wpSr ?_ | with_reducible refine wpS ?_ | ((with_reducible refine wpt ?_ ?_); · simp (disch := first | omega | decide) only [↓neg1, nlit, rI, rL, rI2, rL1, nI_add, pk_mul, sbT, dvT, nmd, ixT, ↓ibT, ltT, ltF, leT, leF, eqT, eqF, nM_ltT, nM_ltF, nM_leT, nM_leF, nM_eqF, nM_eqF', nbT0, nbT1, oI_s, oI_n, natF, natT, nltT, nltF, nleT, nleF, ↓reduceIte, lgc, not_true_eq_false, not_false_eq_true, or_false, false_or, or_true, true_or, and_true, true_and, and_false, false_and, ne_eq, eq_self, or_self, and_self, p210]; done) | ((with_reducible refine wpf ?_ ?_); · simp (disch := first | omega | decide) only [↓neg1, nlit, rI, rL, rI2, rL1, nI_add, pk_mul, sbT, dvT, nmd, ixT, ↓ibT, ltT, ltF, leT, leF, eqT, eqF, nM_ltT, nM_ltF, nM_leT, nM_leF, nM_eqF, nM_eqF', nbT0, nbT1, oI_s, oI_n, natF, natT, nltT, nltF, nleT, nleF, ↓reduceIte, lgc, not_true_eq_false, not_false_eq_true, or_false, false_or, or_true, true_or, and_true, true_and, and_false, false_and, ne_eq, eq_self, or_self, and_self, p210]; done))
    exact ⟨g2, g3⟩
  rintro w0 ⟨a1, a2⟩
  have hnone : ∀ i, i < acn m M → RX w0 M i = none := fun i hi => if_pos (a2 i hi)
  refine wpc (e452 (by omega) (hAs w0 a1).1 hX (hAs w0 a1).2) (fun w1 hw1 => ?_)
  obtain ⟨b1, b2⟩ := hw1
  have s1 : sx (qFl M (acn m M)) u w1 := sx_trans a1 (sx_wide b2 (fun a i => qFl_n))
  have hV1 : RV m M w1 := fun i hi => by
    have h39 : w1.1 239 (40 * M + i) = nI 0 := (b2.1 239 _ rfl).trans (a2 i hi)
    rw [h39]
    exact ⟨Or.inl rfl, fun e => absurd e (by decide)⟩
  have hG1 : GOO m o M (RX w1 M) := fun i g hi hg => by
    rw [RX_240 b2, hnone i hi] at hg
    cases hg
  have h455 := e455 (n := n) (j := 0) (by omega) (hAs w1 s1).1 hX (by omega) hr0.1 b1 (by rw [hr0.2]; exact hent) (fun s hs => by have := entV_lt (s := s) hX; have := hL.1.2; omega) hV1 hG1
  refine wpc (show wp (d_455 n (nI (40 * M)) (nI o) w1) _ from h455) (fun w2 hw2 => ?_)
  obtain ⟨c1, c2, g, c3, c4, c5, c6, c7, c8⟩ := hw2
  have s2 : sx (qFl M (acn m M)) u w2 := sx_trans s1 (sx_wide c1 (fun a i => qFl_c (by omega)))
  have s3 : sx (qFl M (acn m M)) u (pI w2 174 90 1) := sx_pI s2 (decide_eq_true (by omega))
  have hX90 : ∀ (x : cS) (v : Int32) k, RX (pI x 174 90 v) M k = RX x M k := by
    intro x v k
    have h1 : (pI x 174 90 v).1 239 (40 * M + k) = x.1 239 (40 * M + k) := by rw [rI, if_neg (by omega)]
    have h2 : rxv (pI x 174 90 v) (40 * M + k) = rxv x (40 * M + k) := by
      funext s
      unfold rxv
      rw [pI_ne (by omega)]
    unfold RX
    rw [h1, h2]
  have hRI90 : ∀ (x : cS) (v : Int32), nb v → RI m o M K (entV m o M K) x → RI m o M K (entV m o M K) (pI x 174 90 v) := by
    intro x v hv hx
    obtain ⟨i1, i2, i3, i4, i5⟩ := hx
    unfold RI
    rw [show RX (pI x 174 90 v) M = RX x M from funext (hX90 x v)]
    refine ⟨fun i hi => ?_, i2, i3, i4, by rw [rI, if_pos ⟨rfl, rfl⟩]; exact hv⟩
    have h2 : ∀ s, rxv (pI x 174 90 v) (40 * M + i) s = rxv x (40 * M + i) s := by
      intro s
      unfold rxv
      rw [pI_ne (by omega)]
    rw [rI, if_neg (by omega)]
    refine ⟨(i1 i hi).1, fun e s hs => ?_⟩
    rw [h2, rI, if_neg (by omega)]
    exact (i1 i hi).2 e s hs
  have hRI2 : RI m o M K (entV m o M K) (pI w2 174 90 1) := by
    have hothers : ∀ k, k < acn m M → k ≠ 0 → RX w2 M k = none := fun k hk hne => by
      rw [RX_same c1 (by omega), RX_240 b2]
      exact hnone k hk
    have hRX : RX (pI w2 174 90 1) M = RX w2 M := funext (hX90 w2 1)
    have d0 := hr0.2
    rw [d0] at c4 c5 c7
    have hRVp : RV m M (pI w2 174 90 1) := by
      intro i hi
      have h2 : ∀ s, rxv (pI w2 174 90 1) (40 * M + i) s = rxv w2 (40 * M + i) s := by
        intro s
        unfold rxv
        rw [pI_ne (by omega)]
      rw [rI, if_neg (by omega)]
      refine ⟨(c2 i hi).1, fun e s hs => ?_⟩
      rw [h2, rI, if_neg (by omega)]
      exact (c2 i hi).2 e s hs
    refine ⟨hRVp, ?_, ?_, ?_, by rw [rI, if_pos ⟨rfl, rfl⟩]; exact Or.inr rfl⟩
    · rw [hRX]
      intro i h hi hh
      by_cases e : i = 0
      · subst e
        rw [c3] at hh
        cases hh
        exact ⟨hr0.1, by rw [d0]; exact c4⟩
      · rw [hothers i hi e] at hh
        cases hh
    · rw [hRX]
      intro Y hY hC i h hi hh
      by_cases e : i = 0
      · subst e
        rw [c3] at hh
        cases hh
        obtain ⟨y, y1, y2⟩ := hC.1
        have yok := (hY 0 y (by omega) y1).2
        rw [d0] at yok ⊢
        refine ⟨y, y1, c7 y yok y2 (fun h' hh' => ?_)⟩
        rw [RX_240 b2, hnone 0 (by omega)] at hh'
        cases hh'
      · rw [hothers i hi e] at hh
        cases hh
    · rw [hRX]
      exact ⟨g, c3, c5⟩
  refine wpl ?_
  -- round by round
  refine wpc (K' := fun w : cS => sx (qFl M (acn m M)) u w ∧ SOL m o M K (entV m o M K) (RX w M) ∧ RV m M w) (whl_run (fun μ (w : cS) => sx (qFl M (acn m M)) u w ∧ RI m o M K (entV m o M K) w ∧ (w.1 174 90 = nI 0 → ∀ i, i < acn m M → EDR m o M K (RX w M) i) ∧ μ = 2 * potT m o M (RX w M) + ix (w.1 174 90)) ?_ n (2 * potT m o M (RX (pI w2 174 90 1) M) + 1) _ ?_ ⟨s3, hRI2, fun z => ?_, ?_⟩) (fun w hw => hw)
  · rintro μ w ⟨g1, g2, g3, g4⟩
    rcases g2.2.2.2.2 with h0 | h1
    · have h0 : w.1 174 90 = nI 0 := h0
      (try dsimp only); repeat (first | with_reducible refine wpl ?_ | with_reducible refine wpj ?_ | with_reducible refine wpSl ?_ | with_reducible refine wpSr ?_ | with_reducible refine wpS ?_ | ((with_reducible refine wpt ?_ ?_); · simp (disch := first | omega | decide) only [↓neg1, nlit, rI, rL, rI2, rL1, nI_add, pk_mul, sbT, dvT, nmd, ixT, ↓ibT, ltT, ltF, leT, leF, eqT, eqF, nM_ltT, nM_ltF, nM_leT, nM_leF, nM_eqF, nM_eqF', nbT0, nbT1, oI_s, oI_n, natF, natT, nltT, nltF, nleT, nleF, ↓reduceIte, lgc, not_true_eq_false, not_false_eq_true, or_false, false_or, or_true, true_or, and_true, true_and, and_false, false_and, ne_eq, eq_self, or_self, and_self, h0]; done) | ((with_reducible refine wpf ?_ ?_); · simp (disch := first | omega | decide) only [↓neg1, nlit, rI, rL, rI2, rL1, nI_add, pk_mul, sbT, dvT, nmd, ixT, ↓ibT, ltT, ltF, leT, leF, eqT, eqF, nM_ltT, nM_ltF, nM_leT, nM_leF, nM_eqF, nM_eqF', nbT0, nbT1, oI_s, oI_n, natF, natT, nltT, nltF, nleT, nleF, ↓reduceIte, lgc, not_true_eq_false, not_false_eq_true, or_false, false_or, or_true, true_or, and_true, true_and, and_false, false_and, ne_eq, eq_self, or_self, and_self, h0]; done))
      refine ⟨g1, ⟨g2.2.1, ⟨?_, fun i f hi hf => ?_⟩, g2.2.2.1⟩, g2.1⟩
      · exact g2.2.2.2.1
      · exact g3 h0 i hi f hf
    have h1 : w.1 174 90 = nI 1 := h1
    refine wpf (by rw [h1]; decide) (wpl ?_)
    have x0 : sx (qFl M (acn m M)) u (pI w 174 90 0) := sx_pI g1 (decide_eq_true (by omega))
    have xI := hRI90 w 0 (Or.inl rfl) g2
    have xR : RX (pI w 174 90 0) M = RX w M := funext (hX90 w 0)
    have x90 : (pI w 174 90 0).1 174 90 = nI 0 := by rw [rI, if_pos ⟨rfl, rfl⟩]; rfl
    generalize hwz : pI w 174 90 0 = z at x0 xI xR x90 ⊢
    refine wpc (K' := fun x : cS => sx (qFl M (acn m M)) u x ∧ RI m o M K (entV m o M K) x ∧ MOV m o M z x ∧ (x.1 174 90 = nI 0 → ∀ i, i < acn m M → EDR m o M K (RX x M) i)) (whl_cnt (fun i (st : Int32 × cS) => st.1 = nI (40 * M + i) ∧ sx (qFl M (acn m M)) u st.2 ∧ RI m o M K (entV m o M K) st.2 ∧ MOV m o M z st.2 ∧ (st.2.1 174 90 = nI 0 → ∀ k, k < i → EDR m o M K (RX st.2 M) k)) (acn m M) ?_ ?_ (by omega) ⟨rfl, x0, xI, MOV_rfl, fun _ k hk => by omega⟩) ?_
    · rintro i ⟨a, x⟩ hi ⟨j1, j2, j3, j4, j5⟩
      dsimp only at j1 j2 j3 j4 j5
      subst j1
      obtain ⟨hAx, hMx⟩ := hAs x j2
      have p210 : x.1 210 M = nI (acn m M) := (hAx.1 210 M rfl).trans h210
      have hac := MTS_ac hX.2.2.1 hM hi
      obtain ⟨v1, v2⟩ := j3.1 i hi
      -- how an ACT ends
      have hend : ∀ y : cS, sx (qFl M (acn m M)) u y → RI m o M K (entV m o M K) y → MOV m o M x y → (∀ f, RX x M i = some f → (goesN m (40 * M + i) → ∃ h, RX y M (i + 1) = some h ∧ lfF m o (8 + dpb m (40 * M + i)) (trN m o K (40 * M + i) f) h) ∧ (∀ t, m.1 216 (40 * M + i) = nI t → t < acn m M → ∃ h, RX y M t = some h ∧ lfF m o (8 + dpb m (40 * M + i)) (trL m o K (40 * M + i) f) h)) → nI (40 * M + i) + 1 = nI (40 * M + (i + 1)) ∧ sx (qFl M (acn m M)) u y ∧ RI m o M K (entV m o M K) y ∧ MOV m o M z y ∧ (y.1 174 90 = nI 0 → ∀ k, k < i + 1 → EDR m o M K (RX y M) k) := by
        intro y y1 y2 y3 y4
        refine ⟨nI_1 _, y1, y2, MOV_tr j4 y3, fun hy0 k hk => ?_⟩
        rcases y3 with ⟨z1, z2⟩ | ⟨z1, z2⟩
        · have hRy : RX y M = RX x M := funext z2
          rw [hRy]
          by_cases e : k = i
          · subst e
            intro f hf
            rw [hRy] at y4
            exact y4 f hf
          · exact j5 (z1.symm.trans hy0) k (by omega)
        · rw [z1] at hy0
          exact absurd hy0 (by decide)
      (try dsimp only); repeat (first | with_reducible refine wpl ?_ | with_reducible refine wpj ?_ | with_reducible refine wpSl ?_ | with_reducible refine wpSr ?_ | with_reducible refine wpS ?_ | ((with_reducible refine wpt ?_ ?_); · simp (disch := first | omega | decide) only [↓neg1, nlit, rI, rL, rI2, rL1, nI_add, pk_mul, sbT, dvT, nmd, ixT, ↓ibT, ltT, ltF, leT, leF, eqT, eqF, nM_ltT, nM_ltF, nM_leT, nM_leF, nM_eqF, nM_eqF', nbT0, nbT1, oI_s, oI_n, natF, natT, nltT, nltF, nleT, nleF, ↓reduceIte, lgc, not_true_eq_false, not_false_eq_true, or_false, false_or, or_true, true_or, and_true, true_and, and_false, false_and, ne_eq, eq_self, or_self, and_self, p210]; done) | ((with_reducible refine wpf ?_ ?_); · simp (disch := first | omega | decide) only [↓neg1, nlit, rI, rL, rI2, rL1, nI_add, pk_mul, sbT, dvT, nmd, ixT, ↓ibT, ltT, ltF, leT, leF, eqT, eqF, nM_ltT, nM_ltF, nM_leT, nM_leF, nM_eqF, nM_eqF', nbT0, nbT1, oI_s, oI_n, natF, natT, nltT, nltF, nleT, nleF, ↓reduceIte, lgc, not_true_eq_false, not_false_eq_true, or_false, false_or, or_true, true_or, and_true, true_and, and_false, false_and, ne_eq, eq_self, or_self, and_self, p210]; done))
      rcases v1 with h39 | h39
      · have h39 : x.1 239 (40 * M + i) = nI 0 := h39
        have hno : RX x M i = none := if_pos h39
        (try dsimp only); repeat (first | with_reducible refine wpl ?_ | with_reducible refine wpj ?_ | with_reducible refine wpSl ?_ | with_reducible refine wpSr ?_ | with_reducible refine wpS ?_ | ((with_reducible refine wpt ?_ ?_); · simp (disch := first | omega | decide) only [↓neg1, nlit, rI, rL, rI2, rL1, nI_add, pk_mul, sbT, dvT, nmd, ixT, ↓ibT, ltT, ltF, leT, leF, eqT, eqF, nM_ltT, nM_ltF, nM_leT, nM_leF, nM_eqF, nM_eqF', nbT0, nbT1, oI_s, oI_n, natF, natT, nltT, nltF, nleT, nleF, ↓reduceIte, lgc, not_true_eq_false, not_false_eq_true, or_false, false_or, or_true, true_or, and_true, true_and, and_false, false_and, ne_eq, eq_self, or_self, and_self, h39]; done) | ((with_reducible refine wpf ?_ ?_); · simp (disch := first | omega | decide) only [↓neg1, nlit, rI, rL, rI2, rL1, nI_add, pk_mul, sbT, dvT, nmd, ixT, ↓ibT, ltT, ltF, leT, leF, eqT, eqF, nM_ltT, nM_ltF, nM_leT, nM_leF, nM_eqF, nM_eqF', nbT0, nbT1, oI_s, oI_n, natF, natT, nltT, nltF, nleT, nleF, ↓reduceIte, lgc, not_true_eq_false, not_false_eq_true, or_false, false_or, or_true, true_or, and_true, true_and, and_false, false_and, ne_eq, eq_self, or_self, and_self, h39]; done))
        exact hend x j2 j3 MOV_rfl (fun f hf => by rw [hno] at hf; cases hf)
      · have h39 : x.1 239 (40 * M + i) = nI 1 := h39
        have hso : RX x M i = some (rxv x (40 * M + i)) := by
          unfold RX
          rw [h39, if_neg (by decide)]
        obtain ⟨rr, rok⟩ := j3.2.1 i _ hi hso
        have hv := v2 h39
        have hfY : ∀ Y, GOO m o M Y → CLO m o M K (entV m o M K) Y → ∃ g, Y i = some g ∧ lfF m o (8 + dpn m (40 * M + i)) (rxv x (40 * M + i)) g := fun Y hY hC => j3.2.2.1 Y hY hC i _ hi hso
        (try dsimp only); repeat (first | with_reducible refine wpl ?_ | with_reducible refine wpj ?_ | with_reducible refine wpSl ?_ | with_reducible refine wpSr ?_ | with_reducible refine wpS ?_ | ((with_reducible refine wpt ?_ ?_); · simp (disch := first | omega | decide) only [↓neg1, nlit, rI, rL, rI2, rL1, nI_add, pk_mul, sbT, dvT, nmd, ixT, ↓ibT, ltT, ltF, leT, leF, eqT, eqF, nM_ltT, nM_ltF, nM_leT, nM_leF, nM_eqF, nM_eqF', nbT0, nbT1, oI_s, oI_n, natF, natT, nltT, nltF, nleT, nleF, ↓reduceIte, lgc, not_true_eq_false, not_false_eq_true, or_false, false_or, or_true, true_or, and_true, true_and, and_false, false_and, ne_eq, eq_self, or_self, and_self, h39]; done) | ((with_reducible refine wpf ?_ ?_); · simp (disch := first | omega | decide) only [↓neg1, nlit, rI, rL, rI2, rL1, nI_add, pk_mul, sbT, dvT, nmd, ixT, ↓ibT, ltT, ltF, leT, leF, eqT, eqF, nM_ltT, nM_ltF, nM_leT, nM_leF, nM_eqF, nM_eqF', nbT0, nbT1, oI_s, oI_n, natF, natT, nltT, nltF, nleT, nleF, ↓reduceIte, lgc, not_true_eq_false, not_false_eq_true, or_false, false_or, or_true, true_or, and_true, true_and, and_false, false_and, ne_eq, eq_self, or_self, and_self, h39]; done))
        refine wpc (cpy (f := rxv x (40 * M + i)) (by omega) (by omega) (fun s hs => (hv s hs).1)) (fun y0 hy0 => ?_)
        obtain ⟨n0, t0⟩ := hy0
        have sy0 : sx (qFl M (acn m M)) u y0 := sx_trans j2 (sx_wide t0 (fun a i => qFl_n))
        refine wpc (e454 (a := 0) (by omega) (hAs y0 sy0).1 hX hi rr n0 rok (hAs y0 sy0).2) (fun y1 hy1 => ?_)
        obtain ⟨n1', t1⟩ := hy1
        have t01 : sx q240 x y1 := sx_trans t0 t1
        have sy1 : sx (qFl M (acn m M)) u y1 := sx_trans j2 (sx_wide t01 (fun a i => qFl_n))
        have iy1 := RI_240 t01 j3
        have my1 : MOV m o M x y1 := MOV_240 t01
        have hop1 : ∀ y, sx (qFl M (acn m M)) u y → y.1 211 (40 * M + i) = nI (opn m (40 * M + i)) ∧ y.1 216 (40 * M + i) = m.1 216 (40 * M + i) ∧ y.1 230 (40 * M + i) = nI (dpn m (40 * M + i)) ∧ y.1 214 (40 * M + i) = m.1 214 (40 * M + i) ∧ y.1 215 (40 * M + i) = m.1 215 (40 * M + i) := by
          intro y hy
          have hAy := (hAs y hy).1
          exact ⟨(hAy.1 211 _ rfl).trans hac.2.1, hAy.1 216 _ rfl, (hAy.1 230 _ rfl).trans rr.1, hAy.1 214 _ rfl, hAy.1 215 _ rfl⟩
        have hR0 := hac.2.2.2.2.2.2.1
        have htr := FX_ok hX hi rr rok
        have htr1000 : ∀ s, s < 16 → trN m o K (40 * M + i) (rxv x (40 * M + i)) s < 1000 := by
          intro s hs
          by_cases e : s < 8 + dpb m (40 * M + i)
          · have := htr.1 s e
            have := hL.1.2
            omega
          · rw [trN_hi hac.1 hR0 hl8 rr (by omega)]
            exact (hv s hs).2
        have htl1000 : ∀ s, s < 16 → trL m o K (40 * M + i) (rxv x (40 * M + i)) s < 1000 := by
          intro s hs
          by_cases e : s < 8 + dpb m (40 * M + i)
          · have := htr.2 s e
            have := hL.1.2
            omega
          · unfold trL
            rw [if_neg (fun z => by
              have htk := tk_of z.1 (by omega)
              rw [show TK 29 = 1 from rfl] at htk
              have hgv := gv_of z.1
              rw [show GT 29 = 1 from rfl] at hgv
              have := rr.2.1
              have := z.2.2
              unfold dpb at e
              omega)]
            exact htr1000 s hs
        have hR := hac.2.2.2.2.2.2.1
        have hlab := hR.2.2.2.2.2.2
        have hopb := hac.1
        have hoo := hX.2.2.2.2.1
        have fok : okF (eln m o) (8 + dpn m (40 * M + i)) (rxv x (40 * M + i)) := rok
        refine wpt (by simp (disch := first | omega | decide) only [↓neg1, nlit, rI, rL, rI2, rL1, nI_add, pk_mul, sbT, dvT, nmd, ixT, ↓ibT, ltT, ltF, leT, leF, eqT, eqF, nM_ltT, nM_ltF, nM_leT, nM_leF, nM_eqF, nM_eqF', nbT0, nbT1, oI_s, oI_n, natF, natT, nltT, nltF, nleT, nleF, ↓reduceIte, lgc, not_true_eq_false, not_false_eq_true, or_false, false_or, or_true, true_or, and_true, true_and, and_false, false_and, ne_eq, eq_self, or_self, and_self]) (wpjP (fun y : cS => sx (qFl M (acn m M)) u y ∧ RI m o M K (entV m o M K) y ∧ MOV m o M x y ∧ NOW y (trN m o K (40 * M + i) (rxv x (40 * M + i))) ∧ (goesN m (40 * M + i) → ∃ h, RX y M (i + 1) = some h ∧ lfF m o (8 + dpb m (40 * M + i)) (trN m o K (40 * M + i) (rxv x (40 * M + i))) h)) ?_ ?_)
        · rintro y ⟨k1, k2, k3, k4, k5⟩
          obtain ⟨o1, o2, o3, o4, o5⟩ := hop1 y k1
          refine wpt (by simp (disch := first | omega | decide) only [↓neg1, nlit, rI, rL, rI2, rL1, nI_add, pk_mul, sbT, dvT, nmd, ixT, ↓ibT, ltT, ltF, leT, leF, eqT, eqF, nM_ltT, nM_ltF, nM_leT, nM_leF, nM_eqF, nM_eqF', nbT0, nbT1, oI_s, oI_n, natF, natT, nltT, nltF, nleT, nleF, ↓reduceIte, lgc, not_true_eq_false, not_false_eq_true, or_false, false_or, or_true, true_or, and_true, true_and, and_false, false_and, ne_eq, eq_self, or_self, and_self]) ?_
          rw [ix_n (by omega), o2]
          by_cases hl : opn m (40 * M + i) = 27 ∨ opn m (40 * M + i) = 28 ∨ opn m (40 * M + i) = 29
          · obtain ⟨t', l1, l2, -⟩ := hlab.1 hl
            obtain ⟨lb1, lb2⟩ := RCH_lb hX.2.2.1 hM hi rr l2 l1
            rw [l2]
            refine wpt (nI_pos' (by omega)) (wpt (by simp (disch := first | omega | decide) only [↓neg1, nlit, rI, rL, rI2, rL1, nI_add, pk_mul, sbT, dvT, nmd, ixT, ↓ibT, ltT, ltF, leT, leF, eqT, eqF, nM_ltT, nM_ltF, nM_leT, nM_leF, nM_eqF, nM_eqF', nbT0, nbT1, oI_s, oI_n, natF, natT, nltT, nltF, nleT, nleF, ↓reduceIte, lgc, not_true_eq_false, not_false_eq_true, or_false, false_or, or_true, true_or, and_true, true_and, and_false, false_and, ne_eq, eq_self, or_self, and_self]) (wpl (wpt (by simp (disch := first | omega | decide) only [↓neg1, nlit, rI, rL, rI2, rL1, nI_add, pk_mul, sbT, dvT, nmd, ixT, ↓ibT, ltT, ltF, leT, leF, eqT, eqF, nM_ltT, nM_ltF, nM_leT, nM_leF, nM_eqF, nM_eqF', nbT0, nbT1, oI_s, oI_n, natF, natT, nltT, nltF, nleT, nleF, ↓reduceIte, lgc, not_true_eq_false, not_false_eq_true, or_false, false_or, or_true, true_or, and_true, true_and, and_false, false_and, ne_eq, eq_self, or_self, and_self]) (wpjP (fun y' : cS => sx q240 y y' ∧ NOW y' (trL m o K (40 * M + i) (rxv x (40 * M + i)))) ?_ ?_))))
            · rintro y' ⟨q1, q2⟩
              have sq : sx (qFl M (acn m M)) u y' := sx_trans k1 (sx_wide q1 (fun a i => qFl_n))
              refine wpt (by simp (disch := first | omega | decide) only [↓neg1, nlit, rI, rL, rI2, rL1, nI_add, pk_mul, sbT, dvT, nmd, ixT, ↓ibT, ltT, ltF, leT, leF, eqT, eqF, nM_ltT, nM_ltF, nM_leT, nM_leF, nM_eqF, nM_eqF', nbT0, nbT1, oI_s, oI_n, natF, natT, nltT, nltF, nleT, nleF, ↓reduceIte, lgc, not_true_eq_false, not_false_eq_true, or_false, false_or, or_true, true_or, and_true, true_and, and_false, false_and, ne_eq, eq_self, or_self, and_self]) ?_
              rw [(hop1 y' sq).2.1, l2, nI_add]
              have iq := RI_240 q1 k2
              refine wpc (e455 (by omega) (hAs y' sq).1 hX l1 lb1 q2 (by rw [lb2]; exact htr.2) htl1000 iq.1 iq.2.1) (fun w3 hw3 => ?_)
              obtain ⟨z1, z2, z3, z4⟩ := CM_inv (T := trL m o K (40 * M + i)) hX hent iq hi rok hfY l1 lb1 (fun g hg hfg => by rw [lb2]; exact (FX_tr hX hi rr rok hg hfg).2.2.2) (fun g hg => by rw [lb2]; exact (FX_ok hX hi rr hg).2) (fun Y hY hC g hg => by
                obtain ⟨h, h1, h2⟩ := (hC.2 i g hi hg).2 t' l2 l1
                exact ⟨h, h1, by rw [lb2]; exact h2⟩) hw3
              refine hend w3 (sx_trans sq (sx_wide hw3.1 (fun a i => qFl_c l1))) z1 (MOV_tr (MOV_tr k3 (MOV_240 q1)) z4) (fun f hf => ?_)
              rw [hso] at hf
              cases hf
              refine ⟨fun hg => ?_, fun t2 ht2 ht3 => ?_⟩
              · obtain ⟨h, h1, h2⟩ := k5 hg
                obtain ⟨n1, n2, n3⟩ := RCH_nx hX.2.2.1 hM hi rr hg
                have h1' : RX y' M (i + 1) = some h := (RX_240 q1).trans h1
                obtain ⟨g', g1', g2'⟩ := z3 _ _ n1 h1'
                have ok1 := (iq.2.1 _ _ n1 h1').2
                have ok2 := (z1.2.1 _ _ n1 g1').2
                rw [n3] at g2' ok1 ok2
                exact ⟨g', g1', fun s hs => LA_tr hL (htr.1 s hs) (ok1 s hs) (ok2 s hs) (h2 s hs) (g2' s hs)⟩
              · have : t2 = t' := by
                  rw [l2] at ht2
                  exact ((nI_eq (by omega) (by omega)).mp ht2).symm
                rw [this]
                rw [lb2] at z2
                exact z2
            · intro k' hk'
              rw [o1, o3, o4, o5]
              by_cases e : opn m (40 * M + i) = 29
              · have htk := tk_of e (by omega)
                rw [show TK 29 = 1 from rfl] at htk
                have rr2 := rr.2.1
                have rr3 := rr.2.2.1
                have x2 := (hR.2.2.2.2.2.1 (by omega)).2.1
                have x3 := (hR.2.2.2.2.2.1 (by omega)).2.2.1
                have x4 := (hR.2.2.2.2.2.1 (by omega)).2.2.2.1
                have x1 := (hR.2.2.2.2.2.1 (by omega)).1
                rw [x3, x4]
                have hocn := hX.1.1
                by_cases hx : xN m (40 * M + i) = o
                · rw [hx] at x2
                  have u1 := rok (8 + dpn m (40 * M + i) - 1) (by omega)
                  obtain ⟨m1, m2, -⟩ := LA_M hL u1 x2
                  have h12 := hL.1
                  have hid : ∀ s, trN m o K (40 * M + i) (rxv x (40 * M + i)) s = rxv x (40 * M + i) s := fun s => by unfold trN; simp (disch := first | omega | decide) only [↓neg1, nlit, rI, rL, rI2, rL1, nI_add, pk_mul, sbT, dvT, nmd, ixT, ↓ibT, ltT, ltF, leT, leF, eqT, eqF, nM_ltT, nM_ltF, nM_leT, nM_leF, nM_eqF, nM_eqF', nbT0, nbT1, oI_s, oI_n, natF, natT, nltT, nltF, nleT, nleF, ↓reduceIte, lgc, not_true_eq_false, not_false_eq_true, or_false, false_or, or_true, true_or, and_true, true_and, and_false, false_and, ne_eq, eq_self, or_self, and_self, obs, ↓jn, ↓lt, ↓reduceIte, decide_true, decide_false, Bool.false_eq_true, Bool.and_true, Bool.and_false, Bool.true_and, Bool.false_and, Bool.or_false, Bool.false_or, Bool.or_true, Bool.true_or, e]
                  rw [show (8 : Int32) + nI (dpn m (40 * M + i)) - 1 = nI (8 + dpn m (40 * M + i) - 1) by rw [show (8 : Int32) = nI 8 from rfl, nI_add]; exact pk_sub (b := 1) (by omega)]
                  (try dsimp only); repeat (first | with_reducible refine wpl ?_ | with_reducible refine wpj ?_ | with_reducible refine wpSl ?_ | with_reducible refine wpSr ?_ | with_reducible refine wpS ?_ | ((with_reducible refine wpt ?_ ?_); · simp (disch := first | omega | decide) only [↓neg1, nlit, rI, rL, rI2, rL1, nI_add, pk_mul, sbT, dvT, nmd, ixT, ↓ibT, ltT, ltF, leT, leF, eqT, eqF, nM_ltT, nM_ltF, nM_leT, nM_leF, nM_eqF, nM_eqF', nbT0, nbT1, oI_s, oI_n, natF, natT, nltT, nltF, nleT, nleF, ↓reduceIte, lgc, not_true_eq_false, not_false_eq_true, or_false, false_or, or_true, true_or, and_true, true_and, and_false, false_and, ne_eq, eq_self, or_self, and_self, e, hx]; done) | ((with_reducible refine wpf ?_ ?_); · simp (disch := first | omega | decide) only [↓neg1, nlit, rI, rL, rI2, rL1, nI_add, pk_mul, sbT, dvT, nmd, ixT, ↓ibT, ltT, ltF, leT, leF, eqT, eqF, nM_ltT, nM_ltF, nM_leT, nM_leF, nM_eqF, nM_eqF', nbT0, nbT1, oI_s, oI_n, natF, natT, nltT, nltF, nleT, nleF, ↓reduceIte, lgc, not_true_eq_false, not_false_eq_true, or_false, false_or, or_true, true_or, and_true, true_and, and_false, false_and, ne_eq, eq_self, or_self, and_self, e, hx]; done))
                  rw [ix_n (by omega), k4 _ (by omega), hid]
                  refine wpe (e391 (by omega) (by omega) (by omega)) ?_
                  rw [show mM y o (rxv x (40 * M + i) (8 + dpn m (40 * M + i) - 1)) (yN m (40 * M + i)) = nI (Mo m o (rxv x (40 * M + i) (8 + dpn m (40 * M + i) - 1)) (yN m (40 * M + i))) from ((hAs y k1).1.1 186 _ rfl).trans m2]
                  (try dsimp only); repeat (first | with_reducible refine wpl ?_ | with_reducible refine wpj ?_ | with_reducible refine wpSl ?_ | with_reducible refine wpSr ?_ | with_reducible refine wpS ?_ | ((with_reducible refine wpt ?_ ?_); · simp (disch := first | omega | decide) only [↓neg1, nlit, rI, rL, rI2, rL1, nI_add, pk_mul, sbT, dvT, nmd, ixT, ↓ibT, ltT, ltF, leT, leF, eqT, eqF, nM_ltT, nM_ltF, nM_leT, nM_leF, nM_eqF, nM_eqF', nbT0, nbT1, oI_s, oI_n, natF, natT, nltT, nltF, nleT, nleF, ↓reduceIte, lgc, not_true_eq_false, not_false_eq_true, or_false, false_or, or_true, true_or, and_true, true_and, and_false, false_and, ne_eq, eq_self, or_self, and_self]; done) | ((with_reducible refine wpf ?_ ?_); · simp (disch := first | omega | decide) only [↓neg1, nlit, rI, rL, rI2, rL1, nI_add, pk_mul, sbT, dvT, nmd, ixT, ↓ibT, ltT, ltF, leT, leF, eqT, eqF, nM_ltT, nM_ltF, nM_leT, nM_leF, nM_eqF, nM_eqF', nbT0, nbT1, oI_s, oI_n, natF, natT, nltT, nltF, nleT, nleF, ↓reduceIte, lgc, not_true_eq_false, not_false_eq_true, or_false, false_or, or_true, true_or, and_true, true_and, and_false, false_and, ne_eq, eq_self, or_self, and_self]; done))
                  refine hk' _ ⟨sx_pI sx_rfl rfl, ?_⟩
                  intro s hs
                  have := NOW_set (k := 8 + dpn m (40 * M + i) - 1) (v := Mo m o (rxv x (40 * M + i) (8 + dpn m (40 * M + i) - 1)) (yN m (40 * M + i))) k4 (by omega) s hs
                  rw [this]
                  show nI (if s = 8 + dpn m (40 * M + i) - 1 then Mo m o (rxv x (40 * M + i) (8 + dpn m (40 * M + i) - 1)) (yN m (40 * M + i)) else trN m o K (40 * M + i) (rxv x (40 * M + i)) s) = _
                  unfold trL
                  by_cases es : s = 8 + dpn m (40 * M + i) - 1
                  · rw [if_pos es, if_pos ⟨e, hx, es⟩]
                  · rw [if_neg es, if_neg (fun z => es z.2.2)]
                · (try dsimp only); repeat (first | with_reducible refine wpl ?_ | with_reducible refine wpj ?_ | with_reducible refine wpSl ?_ | with_reducible refine wpSr ?_ | with_reducible refine wpS ?_ | ((with_reducible refine wpt ?_ ?_); · simp (disch := first | omega | decide) only [↓neg1, nlit, rI, rL, rI2, rL1, nI_add, pk_mul, sbT, dvT, nmd, ixT, ↓ibT, ltT, ltF, leT, leF, eqT, eqF, nM_ltT, nM_ltF, nM_leT, nM_leF, nM_eqF, nM_eqF', nbT0, nbT1, oI_s, oI_n, natF, natT, nltT, nltF, nleT, nleF, ↓reduceIte, lgc, not_true_eq_false, not_false_eq_true, or_false, false_or, or_true, true_or, and_true, true_and, and_false, false_and, ne_eq, eq_self, or_self, and_self, e, hx]; done) | ((with_reducible refine wpf ?_ ?_); · simp (disch := first | omega | decide) only [↓neg1, nlit, rI, rL, rI2, rL1, nI_add, pk_mul, sbT, dvT, nmd, ixT, ↓ibT, ltT, ltF, leT, leF, eqT, eqF, nM_ltT, nM_ltF, nM_leT, nM_leF, nM_eqF, nM_eqF', nbT0, nbT1, oI_s, oI_n, natF, natT, nltT, nltF, nleT, nleF, ↓reduceIte, lgc, not_true_eq_false, not_false_eq_true, or_false, false_or, or_true, true_or, and_true, true_and, and_false, false_and, ne_eq, eq_self, or_self, and_self, e, hx]; done))
                  refine hk' y ⟨sx_rfl, fun s hs => ?_⟩
                  unfold trL
                  rw [if_neg (fun z => hx z.2.1)]
                  exact k4 s hs
              · (try dsimp only); repeat (first | with_reducible refine wpl ?_ | with_reducible refine wpj ?_ | with_reducible refine wpSl ?_ | with_reducible refine wpSr ?_ | with_reducible refine wpS ?_ | ((with_reducible refine wpt ?_ ?_); · simp (disch := first | omega | decide) only [↓neg1, nlit, rI, rL, rI2, rL1, nI_add, pk_mul, sbT, dvT, nmd, ixT, ↓ibT, ltT, ltF, leT, leF, eqT, eqF, nM_ltT, nM_ltF, nM_leT, nM_leF, nM_eqF, nM_eqF', nbT0, nbT1, oI_s, oI_n, natF, natT, nltT, nltF, nleT, nleF, ↓reduceIte, lgc, not_true_eq_false, not_false_eq_true, or_false, false_or, or_true, true_or, and_true, true_and, and_false, false_and, ne_eq, eq_self, or_self, and_self, e]; done) | ((with_reducible refine wpf ?_ ?_); · simp (disch := first | omega | decide) only [↓neg1, nlit, rI, rL, rI2, rL1, nI_add, pk_mul, sbT, dvT, nmd, ixT, ↓ibT, ltT, ltF, leT, leF, eqT, eqF, nM_ltT, nM_ltF, nM_leT, nM_leF, nM_eqF, nM_eqF', nbT0, nbT1, oI_s, oI_n, natF, natT, nltT, nltF, nleT, nleF, ↓reduceIte, lgc, not_true_eq_false, not_false_eq_true, or_false, false_or, or_true, true_or, and_true, true_and, and_false, false_and, ne_eq, eq_self, or_self, and_self, e]; done))
                refine hk' y ⟨sx_rfl, fun s hs => ?_⟩
                unfold trL
                rw [if_neg (fun z => e z.1)]
                exact k4 s hs
          · have l2 := hlab.2 ⟨fun z => hl (Or.inl z), fun z => hl (Or.inr (Or.inl z)), fun z => hl (Or.inr (Or.inr z))⟩
            rw [l2]
            refine wpf (by decide) ?_
            refine hend y k1 k2 k3 (fun f hf => ?_)
            rw [hso] at hf
            cases hf
            refine ⟨k5, fun t2 ht2 ht3 => ?_⟩
            rw [l2, nM_eqF' (by omega)] at ht2
            exact ht2.elim
        · intro k' hk'
          rw [ix_n (by omega), (hop1 y1 sy1).1]
          by_cases hg : goesN m (40 * M + i)
          · obtain ⟨n1, n2, n3⟩ := RCH_nx hX.2.2.1 hM hi rr hg
            have hg1 := hg.1
            have hg2 := hg.2
            (try dsimp only); repeat (first | with_reducible refine wpl ?_ | with_reducible refine wpj ?_ | with_reducible refine wpSl ?_ | with_reducible refine wpSr ?_ | with_reducible refine wpS ?_ | ((with_reducible refine wpt ?_ ?_); · simp (disch := first | omega | decide) only [↓neg1, nlit, rI, rL, rI2, rL1, nI_add, pk_mul, sbT, dvT, nmd, ixT, ↓ibT, ltT, ltF, leT, leF, eqT, eqF, nM_ltT, nM_ltF, nM_leT, nM_leF, nM_eqF, nM_eqF', nbT0, nbT1, oI_s, oI_n, natF, natT, nltT, nltF, nleT, nleF, ↓reduceIte, lgc, not_true_eq_false, not_false_eq_true, or_false, false_or, or_true, true_or, and_true, true_and, and_false, false_and, ne_eq, eq_self, or_self, and_self, hg1, hg2]; done) | ((with_reducible refine wpf ?_ ?_); · simp (disch := first | omega | decide) only [↓neg1, nlit, rI, rL, rI2, rL1, nI_add, pk_mul, sbT, dvT, nmd, ixT, ↓ibT, ltT, ltF, leT, leF, eqT, eqF, nM_ltT, nM_ltF, nM_leT, nM_leF, nM_eqF, nM_eqF', nbT0, nbT1, oI_s, oI_n, natF, natT, nltT, nltF, nleT, nleF, ↓reduceIte, lgc, not_true_eq_false, not_false_eq_true, or_false, false_or, or_true, true_or, and_true, true_and, and_false, false_and, ne_eq, eq_self, or_self, and_self, hg1, hg2]; done))
            rw [nI_1, show 40 * M + i + 1 = 40 * M + (i + 1) from rfl]
            refine wpc (e455 (n := n) (by omega) (hAs y1 sy1).1 hX n1 n2 n1' (by rw [n3]; exact htr.1) htr1000 iy1.1 iy1.2.1) (fun w3 hw3 => ?_)
            obtain ⟨z1, z2, z3, z4⟩ := CM_inv (T := trN m o K (40 * M + i)) hX hent iy1 hi rok hfY n1 n2 (fun g hg' hfg => by rw [n3]; exact (FX_tr hX hi rr rok hg' hfg).2.1) (fun g hg' => by rw [n3]; exact (FX_ok hX hi rr hg').1) (fun Y hY hC g hg' => by
              obtain ⟨h, h1, h2⟩ := (hC.2 i g hi hg').1 hg
              exact ⟨h, h1, by rw [n3]; exact h2⟩) hw3
            rw [n3] at z2
            refine hk' w3 ⟨sx_trans sy1 (sx_wide hw3.1 (fun a i => qFl_c n1)), z1, MOV_tr my1 z4, fun s hs => ?_, fun _ => z2⟩
            rw [hw3.1.1 240 s (decide_eq_false (by omega))]
            exact n1' s hs
          · have hv := hk' y1 ⟨sy1, iy1, my1, n1', fun z => absurd z hg⟩
            by_cases e : opn m (40 * M + i) = 21
            · (try dsimp only); repeat (first | with_reducible refine wpl ?_ | with_reducible refine wpj ?_ | with_reducible refine wpSl ?_ | with_reducible refine wpSr ?_ | with_reducible refine wpS ?_ | ((with_reducible refine wpt ?_ ?_); · simp (disch := first | omega | decide) only [↓neg1, nlit, rI, rL, rI2, rL1, nI_add, pk_mul, sbT, dvT, nmd, ixT, ↓ibT, ltT, ltF, leT, leF, eqT, eqF, nM_ltT, nM_ltF, nM_leT, nM_leF, nM_eqF, nM_eqF', nbT0, nbT1, oI_s, oI_n, natF, natT, nltT, nltF, nleT, nleF, ↓reduceIte, lgc, not_true_eq_false, not_false_eq_true, or_false, false_or, or_true, true_or, and_true, true_and, and_false, false_and, ne_eq, eq_self, or_self, and_self, e]; done) | ((with_reducible refine wpf ?_ ?_); · simp (disch := first | omega | decide) only [↓neg1, nlit, rI, rL, rI2, rL1, nI_add, pk_mul, sbT, dvT, nmd, ixT, ↓ibT, ltT, ltF, leT, leF, eqT, eqF, nM_ltT, nM_ltF, nM_leT, nM_leF, nM_eqF, nM_eqF', nbT0, nbT1, oI_s, oI_n, natF, natT, nltT, nltF, nleT, nleF, ↓reduceIte, lgc, not_true_eq_false, not_false_eq_true, or_false, false_or, or_true, true_or, and_true, true_and, and_false, false_and, ne_eq, eq_self, or_self, and_self, e]; done))
              exact hv
            · have e2 : opn m (40 * M + i) = 27 := by
                by_cases e3 : opn m (40 * M + i) = 27
                · exact e3
                · exact absurd ⟨e, e3⟩ hg
              (try dsimp only); repeat (first | with_reducible refine wpl ?_ | with_reducible refine wpj ?_ | with_reducible refine wpSl ?_ | with_reducible refine wpSr ?_ | with_reducible refine wpS ?_ | ((with_reducible refine wpt ?_ ?_); · simp (disch := first | omega | decide) only [↓neg1, nlit, rI, rL, rI2, rL1, nI_add, pk_mul, sbT, dvT, nmd, ixT, ↓ibT, ltT, ltF, leT, leF, eqT, eqF, nM_ltT, nM_ltF, nM_leT, nM_leF, nM_eqF, nM_eqF', nbT0, nbT1, oI_s, oI_n, natF, natT, nltT, nltF, nleT, nleF, ↓reduceIte, lgc, not_true_eq_false, not_false_eq_true, or_false, false_or, or_true, true_or, and_true, true_and, and_false, false_and, ne_eq, eq_self, or_self, and_self, e2]; done) | ((with_reducible refine wpf ?_ ?_); · simp (disch := first | omega | decide) only [↓neg1, nlit, rI, rL, rI2, rL1, nI_add, pk_mul, sbT, dvT, nmd, ixT, ↓ibT, ltT, ltF, leT, leF, eqT, eqF, nM_ltT, nM_ltF, nM_leT, nM_leF, nM_eqF, nM_eqF', nbT0, nbT1, oI_s, oI_n, natF, natT, nltT, nltF, nleT, nleF, ↓reduceIte, lgc, not_true_eq_false, not_false_eq_true, or_false, false_or, or_true, true_or, and_true, true_and, and_false, false_and, ne_eq, eq_self, or_self, and_self, e2]; done))
              exact hv
    · rintro ⟨a, x⟩ ⟨j1, j2, j3, j4, j5⟩
      dsimp only at j1 j2 j3 j4 j5
      subst j1
      have p210 : x.1 210 M = nI (acn m M) := ((hAs x j2).1.1 210 M rfl).trans h210
      (try dsimp only); repeat (first | with_reducible refine wpl ?_ | with_reducible refine wpj ?_ | with_reducible refine wpSl ?_ | with_reducible refine wpSr ?_ | with_reducible refine wpS ?_ | ((with_reducible refine wpt ?_ ?_); · simp (disch := first | omega | decide) only [↓neg1, nlit, rI, rL, rI2, rL1, nI_add, pk_mul, sbT, dvT, nmd, ixT, ↓ibT, ltT, ltF, leT, leF, eqT, eqF, nM_ltT, nM_ltF, nM_leT, nM_leF, nM_eqF, nM_eqF', nbT0, nbT1, oI_s, oI_n, natF, natT, nltT, nltF, nleT, nleF, ↓reduceIte, lgc, not_true_eq_false, not_false_eq_true, or_false, false_or, or_true, true_or, and_true, true_and, and_false, false_and, ne_eq, eq_self, or_self, and_self, p210]; done) | ((with_reducible refine wpf ?_ ?_); · simp (disch := first | omega | decide) only [↓neg1, nlit, rI, rL, rI2, rL1, nI_add, pk_mul, sbT, dvT, nmd, ixT, ↓ibT, ltT, ltF, leT, leF, eqT, eqF, nM_ltT, nM_ltF, nM_leT, nM_leF, nM_eqF, nM_eqF', nbT0, nbT1, oI_s, oI_n, natF, natT, nltT, nltF, nleT, nleF, ↓reduceIte, lgc, not_true_eq_false, not_false_eq_true, or_false, false_or, or_true, true_or, and_true, true_and, and_false, false_and, ne_eq, eq_self, or_self, and_self, p210]; done))
      exact ⟨j2, j3, j4, j5⟩
    · rintro x ⟨j2, j3, j4, j5⟩
      rw [h1] at g4
      have g4 : μ = 2 * potT m o M (RX w M) + 1 := g4
      rw [← xR] at g4
      rcases j4 with ⟨q1, q2⟩ | ⟨q1, q2⟩
      · refine ⟨2 * potT m o M (RX x M) + ix (x.1 174 90), ?_, j2, j3, j5, rfl⟩
        rw [q1, x90, show RX x M = RX z M from funext q2]
        show 2 * potT m o M (RX z M) + 0 < μ
        omega
      · refine ⟨2 * potT m o M (RX x M) + ix (x.1 174 90), ?_, j2, j3, j5, rfl⟩
        rw [q1]
        show 2 * potT m o M (RX x M) + 1 < μ
        omega
  · have : potT m o M (RX (pI w2 174 90 1) M) ≤ 200 * acn m M := sumP_le (fun i => by
      unfold potR
      split <;> omega) _
    omega
  · rw [rI, if_pos ⟨rfl, rfl⟩] at z
    exact absurd z (by decide)
  · rw [rI, if_pos ⟨rfl, rfl⟩]
    rfl
