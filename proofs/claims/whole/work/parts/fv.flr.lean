/-! A FILE: the class reads MARKS into a row -/
section FLRS
variable {n a L w lo hi x K r V F : Nat} {b : Nat → Nat} {c d e0 : cS} {sz : Nat → Nat} {X : Nat → Nat → Nat} {Y : Nat → Nat}
/-- PAIRS of a cell, as a list; a MARK of a cell -/
def PCl (c : cS) (x : Nat) (l : List (Int64 × Nat × Int64)) : Prop := c.1 136 x = nI l.length ∧ ∀ q e, l[q]? = some e → c.2 139 (x * 4 + q) = e.1 ∧ c.1 140 (x * 4 + q) = nI e.2.1 ∧ c.2 141 (x * 4 + q) = e.2.2
def MKc (c : cS) (x : Nat) (m : Int64 × Option (List (Int64 × Nat × Int64))) : Prop := c.2 134 x = m.1 ∧ (m.2 = none → c.1 136 x = nM) ∧ ∀ l, m.2 = some l → PCl c x l
def qPx (x A l : Nat) : Bool := decide ((A = 145 ∧ l = 10) ∨ (A = 136 ∧ l = x) ∨ (139 ≤ A ∧ A ≤ 141 ∧ x * 4 ≤ l ∧ l < x * 4 + 4))
theorem PCl_ad {l : List (Int64 × Nat × Int64)} {e : Int64 × Nat × Int64} (h : PCl c x l) : PCl (adC c x l.length e.1 (nI e.2.1) e.2.2) x (l ++ [e]) := by
  obtain ⟨h1, h2⟩ := h
  have g := fun j => adC_at (c := c) (x := x) (p := l.length) (nm := e.1) (s := nI e.2.1) (v := e.2.2) (j := j)
  refine ⟨?_, fun q z hz => ?_⟩
  · rw [(g 0).2.2.2, List.length_append, List.length_singleton]
  · rw [(g _).1, (g _).2.1, (g _).2.2.1]
    by_cases eq : q < l.length
    · rw [List.getElem?_append_left eq] at hz
      rw [if_neg (by omega), if_neg (by omega), if_neg (by omega)]
      exact h2 q z hz
    · rw [List.getElem?_append_right (by omega)] at hz
      have e0 : q - l.length = 0 := by
        by_cases y : q - l.length = 0
        · exact y
        · rw [List.getElem?_eq_none (by simp; omega)] at hz
          cases hz
      rw [e0] at hz
      cases hz
      rw [if_pos (by omega), if_pos (by omega), if_pos (by omega)]
      exact ⟨rfl, rfl, rfl⟩
theorem adC_14 {p : Nat} {nm v : Int64} {s : Int32} : (adC c x p nm s v).1 145 = c.1 145 ∧ (adC c x p nm s v).1 2 = c.1 2 := by
  constructor
  · funext l
    unfold adC
    rw [rI, if_neg (by omega)]
    show (pI (pL c 139 (x * 4 + p) nm) 140 (x * 4 + p) s).1 145 l = _
    rw [rI, if_neg (by omega)]
    rfl
  · funext l
    unfold adC
    rw [rI, if_neg (by omega)]
    show (pI (pL c 139 (x * 4 + p) nm) 140 (x * 4 + p) s).1 2 l = _
    rw [rI, if_neg (by omega)]
    rfl
theorem FCS_ad {p : Nat} {nm v : Int64} {s : Int32} (h : FCS c b L a) : FCS (adC c x p nm s v) b L a := by
  obtain ⟨h1, h2, h3, h4, h5, h6⟩ := h
  obtain ⟨g1, g2⟩ := adC_14 (c := c) (x := x) (p := p) (nm := nm) (s := s) (v := v)
  exact ⟨h1, h2, by rw [g1]; exact h3, by rw [g1]; exact h4, by rw [g1]; exact h5, fun j hj => by rw [g2]; exact h6 j hj⟩
theorem PCl_at {l : List (Int64 × Nat × Int64)} {v : Int32} (h : PCl c x l) : PCl (pI c 145 10 v) x l := ⟨by rw [rI, if_neg (by omega)]; exact h.1, fun q e he => by rw [rI, if_neg (by omega)]; exact h.2 q e he⟩
theorem adC_sx2 {p : Nat} {nm v : Int64} {s : Int32} (hp : p < 4) : sx (qPx x) c (adC c x p nm s v) := sx_pI (sx_pL (sx_pI (sx_pL sx_rfl (decide_eq_true (by omega))) (decide_eq_true (by omega))) (decide_eq_true (by omega))) (decide_eq_true (by omega))
theorem fp_lp2 (hn : 100 ≤ n) (hx : x < 4096) : ∀ (r k a m : Nat) (l : List (Int64 × Nat × Int64)) (c : cS), k + r ≤ 4 → l.length = k → r < m → FCS c b L a → PCl c x l → ∀ p, fPl b L r a l = .inr p → ∃ d, whl (fpL n (nI (k + r)) 0 (nI x)) m (nI k, c) = some d ∧ FCS d b L p.2 ∧ PCl d x p.1 ∧ sx (qPx x) c d
  | 0, k, a, m, l, c, hk, hl, hm, h, hP => by
    obtain ⟨y, rfl⟩ : ∃ y, m = y + 1 := ⟨m - 1, by omega⟩
    intro p hp
    cases hp
    refine ⟨c, whl_out ?_, h, hP, sx_rfl⟩
    unfold fpL
    dsimp only
    exact eq_wp (wpt (by simp (disch := first | omega | decide) only [↓neg1, nlit, rI, rL, rI2, rL1, nI_add, pk_mul, sbT, dvT, nmd, ixT, ↓ibT, ltT, ltF, leT, leF, eqT, eqF, nM_ltT, nM_ltF, nM_leT, nM_leF, nM_eqF, nM_eqF', nbT0, nbT1, oI_s, oI_n, natF, natT, nltT, nltF, nleT, nleF, ↓reduceIte, lgc, not_true_eq_false, not_false_eq_true, or_false, false_or, or_true, true_or, and_true, true_and, and_false, false_and, ne_eq, eq_self, or_self, and_self]) rfl)
  | r + 1, k, a, m, l, c, hk, hl, hm, h, hP => by
    obtain ⟨y, rfl⟩ : ∃ y, m = y + 1 := ⟨m - 1, by omega⟩
    intro p hp
    have hfn : fPl b L (r + 1) a l = match fP1 b L a with
      | .inl w => .inl w
      | .inr p => fPl b L r p.2 (l ++ [p.1]) := rfl
    rw [hfn] at hp
    cases e0 : fP1 b L a with
    | inl w =>
      rw [e0] at hp
      cases hp
    | inr z =>
      rw [e0] at hp
      dsimp only at hp
      unfold fP1 at e0
      cases e1 : fNm b L a with
      | inl w =>
        rw [e1] at e0
        cases e0
      | inr p1 =>
        rw [e1] at e0
        dsimp only at e0
        have hb1 := (fNm_b (b := b) h.1).2 e1
        cases e2 : fby b L 1 3 p1.2 with
        | none =>
          rw [e2] at e0
          cases e0
        | some s =>
          rw [e2] at e0
          dsimp only at e0
          have hs := fby_some e2
          cases e3 : fVl b L s (p1.2 + 1) with
          | inl w =>
            rw [e3] at e0
            cases e0
          | inr q =>
            rw [e3] at e0
            cases e0
            dsimp only at hp
            have hq := (fVl_b (b := b) (s := s) (a := p1.2 + 1) (L := L) (by omega)).2 e3
            have y1 := e295s hn h e1
            have h2 := FCS_at h hb1.2
            have y2 := e293s (n := n) h2 e2 (by decide)
            rw [pI_pI] at y2
            have h3 := FCS_at (a' := p1.2 + 1) h (by omega)
            have y3 := e296s hn h3 ⟨hs.2.1, hs.2.2.1⟩ e3
            rw [pI_pI] at y3
            have h4 := FCS_at (a' := q.2) h hq.2
            have hP4 : PCl (pI c 145 10 (nI q.2)) x l := PCl_at hP
            have y4 := e225 (n := n) (nm := p1.1) (v := q.1) (s := s) (p := l.length) hx (by omega) hP4.1 (by omega)
            have hst : fpL n (nI (k + (r + 1))) 0 (nI x) (nI k, c) = some (.inl (nI (k + 1), adC (pI c 145 10 (nI q.2)) x l.length p1.1 (nI s) q.1)) := by
              unfold fpL
              dsimp only
              rw [h.2.2.2.2.1]
              refine eq_wp (wpf (by simp (disch := first | omega | decide) only [↓neg1, nlit, rI, rL, rI2, rL1, nI_add, pk_mul, sbT, dvT, nmd, ixT, ↓ibT, ltT, ltF, leT, leF, eqT, eqF, nM_ltT, nM_ltF, nM_leT, nM_leF, nM_eqF, nM_eqF', nbT0, nbT1, oI_s, oI_n, natF, natT, nltT, nltF, nleT, nleF, ↓reduceIte, lgc, not_true_eq_false, not_false_eq_true, or_false, false_or, or_true, true_or, and_true, true_and, and_false, false_and, ne_eq, eq_self, or_self, and_self]) (wpt rfl (wpf (by decide) (wpe y1 (wpe y2 (wpe y3 (wpj (wpf (nI_pos (by omega)) (wpe y4 (wpl ?_))))))))))
              rw [nI_1]
              rfl
            obtain ⟨d, g1, g2, g3, g4⟩ := fp_lp2 hn hx r (k + 1) q.2 y (l ++ [(p1.1, s, q.1)]) _ (by omega) (by simp; omega) (by omega) (FCS_ad h4) (PCl_ad (e := (p1.1, s, q.1)) hP4) p hp
            rw [show k + 1 + r = k + (r + 1) by omega] at g1
            refine ⟨d, (whl_in hst).trans g1, g2, g3, sx_trans (sx_trans (sx_pI sx_rfl (decide_eq_true (by omega))) (adC_sx2 (by omega))) g4⟩
/-- what stays when a MARK is read into row r, cell x -/
def qMr (r x la A l : Nat) : Bool := decide ((A = 145 ∧ l = 10) ∨ (A = 133 ∧ 11 ≤ l ∧ l ≤ 13) ∨ (A = 138 ∧ (l = x ∨ l = la)) ∨ (142 ≤ A ∧ A ≤ 144 ∧ l = r) ∨ (134 ≤ A ∧ A ≤ 137 ∧ l = x) ∨ (139 ≤ A ∧ A ≤ 141 ∧ x * 4 ≤ l ∧ l < x * 4 + 4))
theorem FCS_ap {la : Nat} (h : FCS c b L a) (hs : sx (qApp r x la) c d) : FCS d b L a := by
  obtain ⟨h1, h2, h3, h4, h5, h6⟩ := h
  exact ⟨h1, h2, by rw [hs.1 _ _ (decide_eq_false (by omega))]; exact h3, by rw [hs.1 _ _ (decide_eq_false (by omega))]; exact h4, by rw [hs.1 _ _ (decide_eq_false (by omega))]; exact h5, fun j hj => by rw [hs.1 _ _ (decide_eq_false (by omega))]; exact h6 j hj⟩
theorem e294r {p : (Int64 × Option (List (Int64 × Nat × Int64))) × Nat} (hn : 100 ≤ n) (h : FCS c b L a) (hA : ALO c V F sz X Y) (hr : r < 2242) (hV : V < 4096) (hf : fMkk b L a = .inr p) : ∃ d, d_294 n (nI r) c = some d ∧ FCS d b L p.2 ∧ ALO d (V + 1) (F - 1) (upZ sz r (sz r + 1)) (upX X r (sz r) (nxC V F Y)) (fun k => Y (k + 1)) ∧ MKc d (nxC V F Y) p.1 ∧ d.1 135 (nxC V F Y) = nM ∧ nxC V F Y < 4096 ∧ (∀ r' i, r' < 2242 → i < sz r' → X r' i ≠ nxC V F Y) ∧ sx (qMr r (nxC V F Y) (X r (sz r - 1))) c d := by
  unfold fMkk at hf
  cases e1 : fNm b L a with
  | inl w =>
    rw [e1] at hf
    cases hf
  | inr p1 =>
    rw [e1] at hf
    dsimp only at hf
    have hb1 := (fNm_b (b := b) h.1).2 e1
    have y1 := e295s hn h e1
    have h2 := FCS_at h hb1.2
    obtain ⟨x, hx⟩ : ∃ x, x = nxC V F Y := ⟨_, rfl⟩
    obtain ⟨la, hla⟩ : ∃ la, la = X r (sz r - 1) := ⟨_, rfl⟩
    -- from where it stands behind the PAIRS' byte
    have app : ∀ a', a' ≤ L → ∃ d, d_224 n (nI r) p1.1 (pI c 145 10 (nI a')) = some (nI x, d) ∧ FCS d b L a' ∧ ALO d (V + 1) (F - 1) (upZ sz r (sz r + 1)) (upX X r (sz r) x) (fun k => Y (k + 1)) ∧ x < 4096 ∧ (∀ r' i, r' < 2242 → i < sz r' → X r' i ≠ x) ∧ d.2 134 x = p1.1 ∧ d.1 135 x = nM ∧ d.1 136 x = nI 0 ∧ d.1 137 x = nI 1 ∧ sx (qMr r x la) c d := fun a' ha' => by
      obtain ⟨d, g1, g2, g3, g4, g5, g6, g7, g8, g9⟩ := al_224 (n := n) (nm := p1.1) (ALO_cg (d := pI c 145 10 (nI a')) hA (fun A l z => by rw [rI, if_neg (by omega)])) hr hV
      rw [← hx, ← hla] at g9
      rw [← hx] at g1 g2 g3 g4 g5 g6 g7 g8
      exact ⟨d, g1, FCS_ap (FCS_at h ha') g9, g2, g3, g4, g5, g6, g7, g8, sx_trans (sx_pI sx_rfl (decide_eq_true (by omega))) (sx_wide g9 (fun A l z => by
        have := of_decide_eq_false z
        exact decide_eq_false (by omega)))⟩
    rw [← hx, ← hla]
    have hr0 : (0 : Int32) ≤ nI r := nI_le (a := 0) (by omega) (by omega)
    by_cases en : p1.2 < L ∧ b p1.2 = 255
    · rw [if_pos en] at hf
      cases hf
      obtain ⟨d, g1, g2, g3, g4, g5, g6, g7, g8, g9, g10⟩ := app (p1.2 + 1) (by omega)
      have y2 := e293s (n := n) (lo := 255) (hi := 255) (x := 255) h2 (by unfold fby; rw [if_pos ⟨en.1, by omega, by omega⟩, en.2]) (by decide)
      rw [pI_pI] at y2
      refine ⟨pI d 136 x (-1), ?_, ?_, ALO_cg g3 (fun A l z => by rw [rI, if_neg (by omega)]), ⟨g6, fun _ => by rw [rI, if_pos ⟨rfl, rfl⟩]; rfl, fun l hl => by cases hl⟩, by rw [rI, if_neg (by omega)]; exact g7, g4, g5, sx_pI g10 (decide_eq_true (by omega))⟩
      · rw [d294_s]
        refine eq_wp (wpe y1 (no_c h2 ?_))
        rw [if_pos en]
        refine wpj (wpf (by decide) (wpe y2 ?_))
        unfold h294
        refine wpj (wpt hr0 (wpe g1 ?_))
        unfold g294
        refine wpj (wpf (nI_pos (by omega)) (wpf (by decide) (wpt (ib_n g4 (by decide)) (wpl ?_))))
        dsimp only
        rw [show ix (nI x) = x from ix_n (by omega)]
        obtain ⟨y, hy⟩ : ∃ y, n = y + 1 := ⟨n - 1, by omega⟩
        have : whl (fpL n (nI 255) 1 (nI x)) (y + 1) (0, pI d 136 x (-1)) = some (pI d 136 x (-1)) := whl_out (by
          unfold fpL
          dsimp only
          exact eq_wp (wpf (by decide) (wpf (by decide) rfl)))
        rw [← hy] at this
        exact wpe this rfl
      · obtain ⟨k1, k2, k3, k4, k5, k6⟩ := g2
        exact ⟨k1, k2, by rw [rI, if_neg (by omega)]; exact k3, by rw [rI, if_neg (by omega)]; exact k4, by rw [rI, if_neg (by omega)]; exact k5, fun j hj => by rw [rI, if_neg (by omega)]; exact k6 j hj⟩
    · rw [if_neg en] at hf
      cases e2 : fby b L 0 4 p1.2 with
      | none =>
        rw [e2] at hf
        cases hf
      | some k =>
        rw [e2] at hf
        dsimp only at hf
        have hk := fby_some e2
        cases e3 : fPl b L k (p1.2 + 1) [] with
        | inl w =>
          rw [e3] at hf
          cases hf
        | inr q =>
          rw [e3] at hf
          cases hf
          obtain ⟨d, g1, g2, g3, g4, g5, g6, g7, g8, g9, g10⟩ := app (p1.2 + 1) (by omega)
          have y2 := e293s (n := n) h2 e2 (by decide)
          rw [pI_pI] at y2
          obtain ⟨d2, z1, z2, z3, z4⟩ := fp_lp2 (x := x) hn g4 k 0 (p1.2 + 1) n [] d (by omega) rfl (by omega) g2 ⟨g8, fun q e he => by cases he⟩ q e3
          rw [Nat.zero_add] at z1
          refine ⟨d2, ?_, z2, ALO_cg g3 (fun A l z => z4.1 _ _ (decide_eq_false (by omega))), ⟨?_, fun z => (by cases z), fun l hl => ?_⟩, ?_, g4, g5, sx_trans g10 (sx_wide z4 (fun A l z => ?_))⟩
          · rw [d294_s]
            refine eq_wp (wpe y1 (no_c h2 ?_))
            rw [if_neg en]
            refine wpj (wpt rfl (wpe y2 ?_))
            unfold h294
            refine wpj (wpt hr0 (wpe g1 ?_))
            unfold g294
            exact wpj (wpf (nI_pos (by omega)) (wpt rfl (wpe z1 rfl)))
          · rw [z4.2 _ _ (decide_eq_false (by omega))]
            exact g6
          · dsimp only at hl
            cases hl
            exact z3
          · rw [z4.1 _ _ (decide_eq_false (by omega))]
            exact g7
          · have := of_decide_eq_false z
            exact decide_eq_false (by omega)
end FLRS
