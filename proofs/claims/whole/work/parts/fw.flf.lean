/-! A FILE: the class reads it, whole -/
section FLFS
variable {n a L w lo hi x K r V F : Nat} {b : Nat → Nat} {c d e0 : cS} {sz : Nat → Nat} {X : Nat → Nat → Nat} {Y : Nat → Nat}
def flL (n : Nat) (v a2 : Int32) (s10 : Int32 × cS) : Option ((Int32 × cS) ⊕ cS) :=
    if v ≤ s10.1 then
      some (.inr s10.2)
    else
      if 0 ≤ (s10.2.1 145 6) then
        some (.inr s10.2)
      else
        Option.bind (d_294 n a2 s10.2) (fun r11 =>
        lt (s10.1 + 1 : Int32) (fun v13 =>
        some (.inl (v13, r11))))
def en292 (x15 : cS) : Option cS :=
    jn (fun p16 : cS =>
      some p16)
    (fun j76 =>
    if 0 ≤ (x15.1 145 6) then
      j76 x15
    else
      if (x15.1 145 11) ≤ (x15.1 145 10) then
        j76 x15
      else
        lt (pI x15 145 6 (x15.1 145 10)) (fun c17 =>
        j76 c17))
def c292 (c : cS) (v : Int32) : cS := pI (pI (pI c 145 11 v) 145 10 0) 145 6 (-1)
theorem d292_s {v a2 : Int32} : d_292 n v a2 c = Option.bind (d_293 n 0 20 (c292 c v)) (fun r7 => Option.bind (whl (flL n r7.1 a2) n (0, r7.2)) (en292)) := by
  unfold d_292 c292 flL en292
  rfl
def q292 (A l : Nat) : Bool := decide (A = 145 ∧ (l = 6 ∨ l = 10 ∨ l = 11))
theorem c292_s (hL : L ≤ 4000) (hT : ∀ j, j < L → b j < 256 ∧ c.1 2 j = sb (b j)) : FCS (c292 c (nI L)) b L 0 ∧ sx q292 c (c292 c (nI L)) := by
  unfold c292
  refine ⟨⟨by omega, hL, ?_, ?_, ?_, fun j hj => ⟨(hT j hj).1, ?_⟩⟩, sx_pI (sx_pI (sx_pI sx_rfl (by decide)) (by decide)) (by decide)⟩
  · rw [rI, if_neg (by omega), rI, if_pos ⟨rfl, rfl⟩]
    rfl
  · rw [rI, if_neg (by omega), rI, if_neg (by omega), rI, if_pos ⟨rfl, rfl⟩]
  · rw [rI, if_pos ⟨rfl, rfl⟩]
    rfl
  · rw [rI, if_neg (by omega), rI, if_neg (by omega), rI, if_neg (by omega)]
    exact (hT j hj).2
theorem flL_w {v a2 : Int32} {k m : Nat} (hm : 0 < m) (h : FCW d w) : whl (flL n v a2) m (nI k, d) = some d := by
  obtain ⟨y, rfl⟩ : ∃ y, m = y + 1 := ⟨m - 1, by omega⟩
  refine whl_out ?_
  unfold flL
  dsimp only
  rw [h.2.1]
  exact eq_wp (wpi (fun _ => rfl) (fun _ => wpt (nI_le (a := 0) (by omega) (by have := h.1; omega)) rfl))
theorem fl_lp1 (hn : 100 ≤ n) (h : FCS c b L a) : ∀ (r k a' m : Nat) (l : List (Int64 × Option (List (Int64 × Nat × Int64)))), k + r ≤ 20 → a' ≤ L → r + 1 < m → (∀ p, fMl b L r a' l = .inr p → whl (flL n (nI (k + r)) nM) m (nI k, pI c 145 10 (nI a')) = some (pI c 145 10 (nI p.2))) ∧ (∀ w, fMl b L r a' l = .inl w → ∃ d, whl (flL n (nI (k + r)) nM) m (nI k, pI c 145 10 (nI a')) = some d ∧ FCW d w ∧ sx q145f c d)
  | 0, k, a', m, l, hk, ha, hm => by
    obtain ⟨y, rfl⟩ : ∃ y, m = y + 1 := ⟨m - 1, by omega⟩
    refine ⟨fun p hp => ?_, fun w hw => by cases hw⟩
    cases hp
    refine whl_out ?_
    unfold flL
    dsimp only
    exact eq_wp (wpt (by simp (disch := first | omega | decide) only [↓neg1, nlit, rI, rL, rI2, rL1, nI_add, pk_mul, sbT, dvT, nmd, ixT, ↓ibT, ltT, ltF, leT, leF, eqT, eqF, nM_ltT, nM_ltF, nM_leT, nM_leF, nM_eqF, nM_eqF', nbT0, nbT1, oI_s, oI_n, natF, natT, nltT, nltF, nleT, nleF, ↓reduceIte, lgc, not_true_eq_false, not_false_eq_true, or_false, false_or, or_true, true_or, and_true, true_and, and_false, false_and, ne_eq, eq_self, or_self, and_self]) rfl)
  | r + 1, k, a', m, l, hk, ha, hm => by
    obtain ⟨y, rfl⟩ : ∃ y, m = y + 1 := ⟨m - 1, by omega⟩
    have h' := FCS_at h ha
    obtain ⟨c1, hc1⟩ : ∃ c1, c1 = pI c 145 10 (nI a') := ⟨_, rfl⟩
    rw [← hc1] at h' ⊢
    have h6 : c1.1 145 6 = nM := h'.2.2.2.2.1
    have step : ∀ {d1 : cS}, d_294 n nM c1 = some d1 → flL n (nI (k + (r + 1))) nM (nI k, c1) = some (.inl (nI (k + 1), d1)) := fun {d1} y1 => by
      unfold flL
      dsimp only
      rw [h6]
      refine eq_wp (wpf (by simp (disch := first | omega | decide) only [↓neg1, nlit, rI, rL, rI2, rL1, nI_add, pk_mul, sbT, dvT, nmd, ixT, ↓ibT, ltT, ltF, leT, leF, eqT, eqF, nM_ltT, nM_ltF, nM_leT, nM_leF, nM_eqF, nM_eqF', nbT0, nbT1, oI_s, oI_n, natF, natT, nltT, nltF, nleT, nleF, ↓reduceIte, lgc, not_true_eq_false, not_false_eq_true, or_false, false_or, or_true, true_or, and_true, true_and, and_false, false_and, ne_eq, eq_self, or_self, and_self]) (wpf (by decide) (wpe y1 (wpl ?_))))
      rw [nI_1]
      rfl
    have hfn : fMl b L (r + 1) a' l = match fMkk b L a' with
      | .inl w => .inl w
      | .inr p => fMl b L r p.2 (l ++ [p.1]) := rfl
    cases e : fMkk b L a' with
    | inl w1 =>
      rw [hfn, e]
      refine ⟨fun p hp => (by cases hp), fun w hw => ?_⟩
      cases hw
      obtain ⟨d, z1, z2, z3⟩ := e294n hn h' e
      refine ⟨d, (whl_in (step z1)).trans (flL_w (by omega) z2), z2, sx_trans ?_ z3⟩
      rw [hc1]
      exact sx_pI sx_rfl (by decide)
    | inr q =>
      have hq := (fMkk_b (b := b) (L := L) ha).2 e
      have z1 := e294s hn h' e
      rw [hc1, pI_pI] at z1
      rw [← hc1] at z1
      rw [hfn, e, whl_in (step z1)]
      have ih := fl_lp1 hn h r (k + 1) q.2 y (l ++ [q.1]) (by omega) hq.2.1 (by omega)
      rw [show k + 1 + r = k + (r + 1) by omega] at ih
      exact ih
/-- first time: what is wrong -/
theorem e292a (hn : 100 ≤ n) (hL : L ≤ 4000) (hT : ∀ j, j < L → b j < 256 ∧ c.1 2 j = sb (b j)) : ∃ d, d_292 n (nI L) nM c = some d ∧ sx q292 c d ∧ (∀ w, fFl b L = .inl w → w ≤ 4000 ∧ d.1 145 6 = nI w) ∧ ∀ l, fFl b L = .inr l → d.1 145 6 = nM := by
  obtain ⟨h0, s0⟩ := c292_s (c := c) hL hT
  obtain ⟨c0, hc0⟩ : ∃ c0, c0 = c292 c (nI L) := ⟨_, rfl⟩
  rw [← hc0] at h0 s0
  have wide : ∀ {d : cS}, sx q145f c0 d → sx q292 c d := fun {d} z => sx_trans s0 (sx_wide z (fun A l y => by
    have := of_decide_eq_false y
    exact decide_eq_false (by omega)))
  have hen : ∀ {d : cS} {w : Nat}, FCW d w → en292 d = some d := fun {d w} z => by
    unfold en292
    rw [z.2.1]
    exact eq_wp (wpj (wpt (nI_le (a := 0) (by omega) (by have := z.1; omega)) rfl))
  unfold fFl
  cases e : fby b L 0 20 0 with
  | none =>
    have hW := FCW_of h0 h0.1
    refine ⟨pI c0 145 6 (nI 0), ?_, wide (sx_pI sx_rfl (by decide)), fun w hw => ?_, fun l hl => by cases hl⟩
    · rw [d292_s, ← hc0]
      exact eq_wp (wpe (e293n h0 e (by decide) (by decide)) (wpe (flL_w (k := 0) (by omega) hW) (wp_of (hen hW) rfl)))
    · cases hw
      exact ⟨by omega, hW.2.1⟩
  | some k =>
    have hk := fby_some e
    dsimp only
    have y1 := e293s (n := n) h0 e (by decide)
    have hl := fl_lp1 (n := n) hn h0 k 0 1 n [] (by omega) (by omega) (by omega)
    rw [Nat.zero_add] at hl
    cases e2 : fMl b L k 1 [] with
    | inl w1 =>
      obtain ⟨d, z1, z2, z3⟩ := hl.2 w1 e2
      refine ⟨d, ?_, wide z3, fun w hw => ?_, fun l hl => by cases hl⟩
      · rw [d292_s, ← hc0]
        exact eq_wp (wpe y1 (wpe z1 (wp_of (hen z2) rfl)))
      · cases hw
        exact ⟨z2.1, z2.2.1⟩
    | inr p =>
      have z1 := hl.1 p e2
      have hp := (fMl_b (b := b) (r := k) (a := 1) (l := []) (L := L) (by omega) (fun x hx => by cases hx)).2 e2
      have h3 := FCS_at h0 hp.2.1
      dsimp only
      by_cases e3 : p.2 < L
      · rw [if_pos e3]
        have hW := FCW_of h3 hp.2.1
        refine ⟨pI (pI c0 145 10 (nI p.2)) 145 6 (nI p.2), ?_, wide (sx_pI (sx_pI sx_rfl (by decide)) (by decide)), fun w hw => ?_, fun l hl => by cases hl⟩
        · rw [d292_s, ← hc0]
          refine eq_wp (wpe y1 (wpe z1 ?_))
          unfold en292
          rw [h3.2.2.2.2.1, h3.2.2.2.1, h3.2.2.1]
          exact wpj (wpf (by decide) (wpf (by simp (disch := first | omega | decide) only [↓neg1, nlit, rI, rL, rI2, rL1, nI_add, pk_mul, sbT, dvT, nmd, ixT, ↓ibT, ltT, ltF, leT, leF, eqT, eqF, nM_ltT, nM_ltF, nM_leT, nM_leF, nM_eqF, nM_eqF', nbT0, nbT1, oI_s, oI_n, natF, natT, nltT, nltF, nleT, nleF, ↓reduceIte, lgc, not_true_eq_false, not_false_eq_true, or_false, false_or, or_true, true_or, and_true, true_and, and_false, false_and, ne_eq, eq_self, or_self, and_self]) (wpl rfl)))
        · cases hw
          exact ⟨hW.1, hW.2.1⟩
      · rw [if_neg e3]
        refine ⟨pI c0 145 10 (nI p.2), ?_, wide (sx_pI sx_rfl (by decide)), fun w hw => (by cases hw), fun l hl => h3.2.2.2.2.1⟩
        rw [d292_s, ← hc0]
        refine eq_wp (wpe y1 (wpe z1 ?_))
        unfold en292
        rw [h3.2.2.2.2.1, h3.2.2.2.1, h3.2.2.1]
        exact wpj (wpf (by decide) (wpt (by simp (disch := first | omega | decide) only [↓neg1, nlit, rI, rL, rI2, rL1, nI_add, pk_mul, sbT, dvT, nmd, ixT, ↓ibT, ltT, ltF, leT, leF, eqT, eqF, nM_ltT, nM_ltF, nM_leT, nM_leF, nM_eqF, nM_eqF', nbT0, nbT1, oI_s, oI_n, natF, natT, nltT, nltF, nleT, nleF, ↓reduceIte, lgc, not_true_eq_false, not_false_eq_true, or_false, false_or, or_true, true_or, and_true, true_and, and_false, false_and, ne_eq, eq_self, or_self, and_self]) rfl))
/-- cells of other rows -/
def KOT (c d : cS) (sz : Nat → Nat) (X : Nat → Nat → Nat) (r : Nat) : Prop := ∀ r' i, r' < 2242 → r' ≠ r → i < sz r' → (∀ A, 134 ≤ A → A ≤ 137 → d.1 A (X r' i) = c.1 A (X r' i) ∧ d.2 A (X r' i) = c.2 A (X r' i)) ∧ ∀ A q, 139 ≤ A → A ≤ 141 → q < 4 → d.1 A (X r' i * 4 + q) = c.1 A (X r' i * 4 + q) ∧ d.2 A (X r' i * 4 + q) = c.2 A (X r' i * 4 + q)
def qGv (r A l : Nat) : Bool := decide ((A = 145 ∧ l = 10) ∨ (A = 133 ∧ 11 ≤ l ∧ l ≤ 13) ∨ (134 ≤ A ∧ A ≤ 141) ∨ (142 ≤ A ∧ A ≤ 144 ∧ l = r))
/-- row r holds these MARKS, not yet settled -/
def CRW (c : cS) (X : Nat → Nat → Nat) (r : Nat) (l : List (Int64 × Option (List (Int64 × Nat × Int64)))) : Prop := ∀ j m, l[j]? = some m → MKc c (X r j) m
theorem MKc_cg {m : Int64 × Option (List (Int64 × Nat × Int64))} (h : MKc c x m) (hm : fOk m) (h1 : d.2 134 x = c.2 134 x) (h2 : d.1 136 x = c.1 136 x) (h3 : ∀ A q, 139 ≤ A → A ≤ 141 → q < 4 → d.1 A (x * 4 + q) = c.1 A (x * 4 + q) ∧ d.2 A (x * 4 + q) = c.2 A (x * 4 + q)) : MKc d x m := by
  obtain ⟨g1, g2, g3⟩ := h
  refine ⟨by rw [h1]; exact g1, fun z => by rw [h2]; exact g2 z, fun l hl => ?_⟩
  obtain ⟨k1, k2⟩ := g3 l hl
  refine ⟨by rw [h2]; exact k1, fun q e he => ?_⟩
  have hq : q < l.length := by
    by_cases z : q < l.length
    · exact z
    · rw [List.getElem?_eq_none (by omega)] at he
      cases he
  have := (hm l hl).1
  rw [(h3 139 q (by omega) (by omega) (by omega)).2, (h3 140 q (by omega) (by omega) (by omega)).1, (h3 141 q (by omega) (by omega) (by omega)).2]
  exact k2 q e he
theorem fl_lp2 (hn : 100 ≤ n) (hr : r < 2242) : ∀ (rr k a m V F : Nat) (sz : Nat → Nat) (X : Nat → Nat → Nat) (Y : Nat → Nat) (l : List (Int64 × Option (List (Int64 × Nat × Int64)))) (c : cS), k + rr ≤ 20 → l.length = k → rr < m → V + rr ≤ 4096 → sz r = k → FCS c b L a → ALO c V F sz X Y → CRW c X r l → (∀ x ∈ l, fOk x) → ∀ p, fMl b L rr a l = .inr p → ∃ d F' X' Y', whl (flL n (nI (k + rr)) (nI r)) m (nI k, c) = some d ∧ FCS d b L p.2 ∧ ALO d (V + rr) F' (upZ sz r (k + rr)) X' Y' ∧ CRW d X' r p.1 ∧ (∀ r' i, r' < 2242 → r' ≠ r → i < sz r' → X' r' i = X r' i) ∧ KOT c d sz X r ∧ sx (qGv r) c d
  | 0, k, a, m, V, F, sz, X, Y, l, c, hk, hl, hm, hV, hs, h, hA, hC, hO => by
    obtain ⟨y, rfl⟩ : ∃ y, m = y + 1 := ⟨m - 1, by omega⟩
    intro p hp
    cases hp
    refine ⟨c, F, X, Y, whl_out ?_, h, ?_, hC, fun _ _ _ _ _ => rfl, fun r' i _ _ _ => ⟨fun _ _ _ => ⟨rfl, rfl⟩, fun _ _ _ _ _ => ⟨rfl, rfl⟩⟩, sx_rfl⟩
    · unfold flL
      dsimp only
      exact eq_wp (wpt (by simp (disch := first | omega | decide) only [↓neg1, nlit, rI, rL, rI2, rL1, nI_add, pk_mul, sbT, dvT, nmd, ixT, ↓ibT, ltT, ltF, leT, leF, eqT, eqF, nM_ltT, nM_ltF, nM_leT, nM_leF, nM_eqF, nM_eqF', nbT0, nbT1, oI_s, oI_n, natF, natT, nltT, nltF, nleT, nleF, ↓reduceIte, lgc, not_true_eq_false, not_false_eq_true, or_false, false_or, or_true, true_or, and_true, true_and, and_false, false_and, ne_eq, eq_self, or_self, and_self]) rfl)
    · have : upZ sz r (k + 0) = sz := by
        funext q
        unfold upZ
        by_cases e : q = r
        · rw [if_pos e, e, hs]
          rfl
        · rw [if_neg e]
      rw [this]
      exact hA
  | rr + 1, k, a, m, V, F, sz, X, Y, l, c, hk, hl, hm, hV, hs, h, hA, hC, hO => by
    obtain ⟨y, rfl⟩ : ∃ y, m = y + 1 := ⟨m - 1, by omega⟩
    intro p hp
    have hfn : fMl b L (rr + 1) a l = match fMkk b L a with
      | .inl w => .inl w
      | .inr p => fMl b L rr p.2 (l ++ [p.1]) := rfl
    rw [hfn] at hp
    cases e : fMkk b L a with
    | inl w =>
      rw [e] at hp
      cases hp
    | inr q =>
      rw [e] at hp
      dsimp only at hp
      have hq := (fMkk_b (b := b) h.1).2 e
      obtain ⟨d, g1, g2, g3, g4, g5, g6, g7, g8⟩ := e294r hn h hA hr (by omega) e
      obtain ⟨x, hx⟩ : ∃ x, x = nxC V F Y := ⟨_, rfl⟩
      rw [← hx] at g3 g4 g5 g6 g7 g8
      rw [hs] at g3 g8
      have hst : flL n (nI (k + (rr + 1))) (nI r) (nI k, c) = some (.inl (nI (k + 1), d)) := by
        unfold flL
        dsimp only
        rw [h.2.2.2.2.1]
        refine eq_wp (wpf (by simp (disch := first | omega | decide) only [↓neg1, nlit, rI, rL, rI2, rL1, nI_add, pk_mul, sbT, dvT, nmd, ixT, ↓ibT, ltT, ltF, leT, leF, eqT, eqF, nM_ltT, nM_ltF, nM_leT, nM_leF, nM_eqF, nM_eqF', nbT0, nbT1, oI_s, oI_n, natF, natT, nltT, nltF, nleT, nleF, ↓reduceIte, lgc, not_true_eq_false, not_false_eq_true, or_false, false_or, or_true, true_or, and_true, true_and, and_false, false_and, ne_eq, eq_self, or_self, and_self]) (wpf (by decide) (wpe g1 (wpl ?_))))
        rw [nI_1]
        rfl
      -- cells that are none of the new one's
      have keep : ∀ y, y ≠ x → (∀ A, 134 ≤ A → A ≤ 137 → d.1 A y = c.1 A y ∧ d.2 A y = c.2 A y) ∧ ∀ A q, 139 ≤ A → A ≤ 141 → q < 4 → d.1 A (y * 4 + q) = c.1 A (y * 4 + q) ∧ d.2 A (y * 4 + q) = c.2 A (y * 4 + q) := fun y hy => ⟨fun A z1 z2 => ⟨g8.1 _ _ (decide_eq_false (by omega)), g8.2 _ _ (decide_eq_false (by omega))⟩, fun A q z1 z2 z3 => ⟨g8.1 _ _ (decide_eq_false (by omega)), g8.2 _ _ (decide_eq_false (by omega))⟩⟩
      have hC' : CRW d (upX X r k x) r (l ++ [q.1]) := fun j m hj => by
        by_cases ej : j < l.length
        · rw [List.getElem?_append_left ej] at hj
          have e1 : upX X r k x r j = X r j := if_neg (by omega)
          rw [e1]
          have kp := keep (X r j) (g7 r j hr (by omega))
          exact MKc_cg (hC j m hj) (hO m (List.mem_of_getElem? hj)) (kp.1 134 (by omega) (by omega)).2 (kp.1 136 (by omega) (by omega)).1 kp.2
        · rw [List.getElem?_append_right (by omega)] at hj
          have e0 : j - l.length = 0 := by
            by_cases z : j - l.length = 0
            · exact z
            · rw [List.getElem?_eq_none (by simp; omega)] at hj
              cases hj
          rw [e0] at hj
          cases hj
          have e1 : upX X r k x r j = x := if_pos ⟨rfl, by omega⟩
          rw [e1]
          exact g4
      obtain ⟨d2, F', X', Y', k1, k2, k3, k4, k5, k6, k7⟩ := fl_lp2 hn hr rr (k + 1) q.2 y (V + 1) (F - 1) (upZ sz r (k + 1)) (upX X r k x) (fun k => Y (k + 1)) (l ++ [q.1]) d (by omega) (by simp; omega) (by omega) (by omega) (if_pos rfl) g2 g3 hC' (fun x hx => by
        rcases List.mem_append.mp hx with z | z
        · exact hO x z
        · rw [List.mem_singleton.mp z]
          exact hq.2.2) p hp
      rw [show k + 1 + rr = k + (rr + 1) by omega] at k1 k3
      have ezz : upZ (upZ sz r (k + 1)) r (k + (rr + 1)) = upZ sz r (k + (rr + 1)) := by
        funext q
        unfold upZ
        by_cases e : q = r
        · rw [if_pos e, if_pos e]
        · rw [if_neg e, if_neg e, if_neg e]
      rw [ezz, show V + 1 + rr = V + (rr + 1) by omega] at k3
      have szo : ∀ r', r' ≠ r → upZ sz r (k + 1) r' = sz r' := fun r' z => if_neg z
      have Xo : ∀ r' i, r' ≠ r → upX X r k x r' i = X r' i := fun r' i z => if_neg (fun y => z y.1)
      refine ⟨d2, F', X', Y', (whl_in hst).trans k1, k2, k3, k4, fun r' i z1 z2 z3 => ?_, fun r' i z1 z2 z3 => ?_, sx_trans (sx_wide g8 (fun A l z => ?_)) k7⟩
      · rw [k5 r' i z1 z2 (by rw [szo r' z2]; exact z3), Xo r' i z2]
      · have u1 := k6 r' i z1 z2 (by rw [szo r' z2]; exact z3)
        rw [Xo r' i z2] at u1
        have u2 := keep (X r' i) (g7 r' i z1 z3)
        exact ⟨fun A a1 a2 => ⟨(u1.1 A a1 a2).1.trans (u2.1 A a1 a2).1, (u1.1 A a1 a2).2.trans (u2.1 A a1 a2).2⟩, fun A q a1 a2 a3 => ⟨(u1.2 A q a1 a2 a3).1.trans (u2.2 A q a1 a2 a3).1, (u1.2 A q a1 a2 a3).2.trans (u2.2 A q a1 a2 a3).2⟩⟩
      · have := of_decide_eq_false z
        exact decide_eq_false (by omega)
def qGw (r A l : Nat) : Bool := decide ((A = 145 ∧ (l = 6 ∨ l = 10 ∨ l = 11)) ∨ (A = 133 ∧ 11 ≤ l ∧ l ≤ 13) ∨ (134 ≤ A ∧ A ≤ 141) ∨ (142 ≤ A ∧ A ≤ 144 ∧ l = r))
/-- second time: into the row -/
theorem e292b {l : List (Int64 × Option (List (Int64 × Nat × Int64)))} (hn : 100 ≤ n) (hL : L ≤ 4000) (hT : ∀ j, j < L → b j < 256 ∧ c.1 2 j = sb (b j)) (hr : r < 2242) (hA : ALO c V F sz X Y) (hs : sz r = 0) (hV : V + 20 ≤ 4096) (hf : fFl b L = .inr l) : ∃ d F' X' Y', d_292 n (nI L) (nI r) c = some d ∧ ALO d (V + l.length) F' (upZ sz r l.length) X' Y' ∧ CRW d X' r l ∧ (∀ r' i, r' < 2242 → r' ≠ r → i < sz r' → X' r' i = X r' i) ∧ KOT c d sz X r ∧ sx (qGw r) c d := by
  obtain ⟨h0, s0⟩ := c292_s (c := c) hL hT
  obtain ⟨c0, hc0⟩ : ∃ c0, c0 = c292 c (nI L) := ⟨_, rfl⟩
  rw [← hc0] at h0 s0
  unfold fFl at hf
  cases e : fby b L 0 20 0 with
  | none =>
    rw [e] at hf
    cases hf
  | some k =>
    have hk := fby_some e
    rw [e] at hf
    dsimp only at hf
    cases e2 : fMl b L k 1 [] with
    | inl w1 =>
      rw [e2] at hf
      cases hf
    | inr p =>
      rw [e2] at hf
      dsimp only at hf
      by_cases e3 : p.2 < L
      · rw [if_pos e3] at hf
        cases hf
      rw [if_neg e3] at hf
      cases hf
      have hp := (fMl_b (b := b) (r := k) (a := 1) (l := []) (L := L) (by omega) (fun x hx => by cases hx)).2 e2
      have y1 := e293s (n := n) h0 e (by decide)
      have h1 : FCS (pI c0 145 10 (nI 1)) b L 1 := FCS_at h0 (by omega)
      have hA1 : ALO (pI c0 145 10 (nI (0 + 1))) V F sz X Y := ALO_cg hA (fun A l z => by
        rw [rI, if_neg (by omega)]
        exact s0.1 _ _ (decide_eq_false (by omega)))
      obtain ⟨d, F', X', Y', k1, k2, k3, k4, k5, k6, k7⟩ := fl_lp2 hn hr k 0 1 n V F sz X Y [] (pI c0 145 10 (nI (0 + 1))) (by omega) rfl (by omega) (by omega) hs h1 hA1 (fun j m hj => by cases hj) (fun x hx => by cases hx) p e2
      have hlen : p.1.length = k := by
        have := hp.2.2.1
        simp at this
        exact this
      rw [Nat.zero_add] at k1 k3
      rw [hlen]
      have hpL : p.2 = L := by
        have := hp.2.1
        omega
      refine ⟨d, F', X', Y', ?_, k3, k4, k5, fun r' i z1 z2 z3 => ?_, ?_⟩
      · rw [d292_s, ← hc0]
        refine eq_wp (wpe y1 (wpe k1 ?_))
        unfold en292
        rw [k2.2.2.2.2.1, k2.2.2.2.1, k2.2.2.1]
        exact wpj (wpf (by decide) (wpt (by rw [hpL]; exact nI_le (Nat.le_refl _) (by omega)) rfl))
      · have u1 := k6 r' i z1 z2 z3
        have cc : ∀ A y, A ≠ 145 → (pI c0 145 10 (nI (0 + 1))).1 A y = c.1 A y ∧ (pI c0 145 10 (nI (0 + 1))).2 A y = c.2 A y := fun A y z => ⟨by
          rw [rI, if_neg (by omega)]
          exact s0.1 _ _ (decide_eq_false (by omega)), s0.2 _ _ (decide_eq_false (by omega))⟩
        exact ⟨fun A a1 a2 => ⟨(u1.1 A a1 a2).1.trans (cc A _ (by omega)).1, (u1.1 A a1 a2).2.trans (cc A _ (by omega)).2⟩, fun A q a1 a2 a3 => ⟨(u1.2 A q a1 a2 a3).1.trans (cc A _ (by omega)).1, (u1.2 A q a1 a2 a3).2.trans (cc A _ (by omega)).2⟩⟩
      · exact sx_trans (sx_wide s0 (fun A l z => by
          have := of_decide_eq_false z
          exact decide_eq_false (by omega))) (sx_trans (sx_pI sx_rfl (decide_eq_true (by omega))) (sx_wide k7 (fun A l z => by
          have := of_decide_eq_false z
          exact decide_eq_false (by omega))))
end FLFS
