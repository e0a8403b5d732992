/-! THE TAPE, THE OUT, FAULTS, ARGUMENTS, INPUTS -/
theorem b8 (x : Int32) : (x &&& 255).toInt8 = x.toInt8 := by
  rw [Int32.toInt8_and, show (255 : Int32).toInt8 = -1 by decide]
  simp
def sb (v : Nat) : Int32 := (nI v).toInt8.toInt32
theorem byte_rel (x : Int32) : ∃ v, v < 256 ∧ x &&& 255 = nI v ∧ vp_nar .byte x.toInt8.toInt32 = sb v := by
  obtain ⟨v, hv, e⟩ := pk_andE x (m := 255) 8 (by decide)
  refine ⟨v, hv, e, ?_⟩
  rw [pk_vb]
  unfold sb
  rw [← e, b8]
def qT (a i : Nat) : Bool := (Nat.beq a 1 && Nat.beq i 1) || Nat.beq a 2
def pT (a i : Nat) : Bool := (Nat.beq a 174 && (Nat.beq i 0 || Nat.beq i 2)) || Nat.beq a 175
/-- the tapes -/
def JT (c m : cS) : Prop := ∃ L, L ≤ 4000 ∧ c.1 1 1 = nI L ∧ m.1 174 2 = nI L ∧ ∀ i, i < L → ∃ v, v < 256 ∧ m.1 175 i = nI v ∧ c.1 2 i = sb v
def sh (j : Nat) : Int32 := Int32.ofInt (24 - 8 * (j : Int))
def bt (v : Int32) (j : Nat) : Int32 := vp_nar .byte ((v >>> (sh j &&& 31)).toInt8.toInt32)
def bm (v : Int32) (j : Nat) : Int32 := (v >>> (sh j &&& 31)) &&& 255
theorem j4 {j : Nat} (h : j < 4) : j = 0 ∨ j = 1 ∨ j = 2 ∨ j = 3 := by omega
theorem sh_pos {j : Nat} (h : j < 4) : ¬ sh j < 0 := by
  rcases j4 h with rfl | rfl | rfl | rfl <;> decide
theorem sh_next {j : Nat} (h : j < 4) : sh j + (-8) = sh (j + 1) := by
  rcases j4 h with rfl | rfl | rfl | rfl <;> decide
theorem aw_spec {n : Nat} {v : Int32} {c : cS} {L : Nat} (hn : 5 ≤ n) (hL : L + 4 ≤ 4000) (h0 : c.1 1 1 = nI L) : wp (d_24 n v c) (fun c' => c'.1 1 1 = nI (L + 4) ∧ (∀ i, c'.1 2 i = if L ≤ i ∧ i < L + 4 then bt v (i - L) else c.1 2 i) ∧ sx qT c c') := by
  unfold d_24
  refine wpc (whl_run (fun m s => ∃ j, j ≤ 4 ∧ m = 4 - j ∧ s.1 = sh j ∧ s.2.1 1 1 = nI (L + j) ∧ (∀ i, s.2.1 2 i = if L ≤ i ∧ i < L + j then bt v (i - L) else c.1 2 i) ∧ sx qT c s.2) ?_ n 4 (24, c) (by omega) ⟨0, by omega, rfl, (show (24 : Int32) = sh 0 by decide), h0, fun i => by rw [if_neg (by omega)], sx_rfl⟩) (fun a h => h)
  rintro m ⟨s, x⟩ ⟨j, hj, rfl, hs, hl, hb, hx⟩
  have hs : s = sh j := hs
  have hl : x.1 1 1 = nI (L + j) := hl
  have hb : ∀ i, x.1 2 i = if L ≤ i ∧ i < L + j then bt v (i - L) else c.1 2 i := hb
  have hx : sx qT c x := hx
  subst hs
  by_cases h4 : j = 4
  · subst h4
    refine wpt (show sh 4 < 0 by decide) ?_
    exact ⟨hl, hb, hx⟩
  have hj' : j < 4 := by omega
  refine wpf (sh_pos hj') ?_
  refine wpf (show ¬ 4000 ≤ x.1 1 1 by rw [hl]; exact nI_ge (b := 4000) (by omega) (by decide)) ?_
  refine wpl ?_
  refine wpg (show ib (x.1 1 1) 4000 by rw [hl]; exact ib_n (by omega) (by decide)) ?_
  refine wpl (wpl ?_)
  refine ⟨4 - (j + 1), by omega, j + 1, by omega, rfl, sh_next hj', ?_, fun i => ?_, ?_⟩
  · show (pI (pI x 1 1 (x.1 1 1 + 1)) 2 (ix (x.1 1 1)) _).1 1 1 = _
    rw [rI, if_neg (by omega), rI, if_pos ⟨rfl, rfl⟩, hl, nI_1]
    rfl
  · show (pI (pI x 1 1 (x.1 1 1 + 1)) 2 (ix (x.1 1 1)) _).1 2 i = _
    rw [rI, hl, ix_n (by omega)]
    by_cases hi : i = L + j
    · rw [if_pos ⟨rfl, hi⟩, if_pos (by omega), hi, Nat.add_sub_cancel_left]
      rfl
    · rw [if_neg (fun z => hi z.2), rI, if_neg (by omega), hb]
      by_cases h3 : L ≤ i ∧ i < L + j
      · rw [if_pos h3, if_pos (by omega)]
      · rw [if_neg h3, if_neg (by omega)]
  · exact sx_pI (sx_pI hx rfl) rfl
theorem fo_spec {n : Nat} {v : Int32} {c : cS} {L : Nat} (hn : 5 ≤ n) (hL : L + 4 ≤ 4000) (h0 : c.1 174 2 = nI L) : wp (d_94 n v c) (fun c' => c'.1 174 2 = nI (L + 4) ∧ (∀ i, c'.1 175 i = if L ≤ i ∧ i < L + 4 then bm v (i - L) else c.1 175 i) ∧ sx pT c c') := by
  unfold d_94
  refine wpc (whl_run (fun m s => ∃ j, j ≤ 4 ∧ m = 4 - j ∧ s.1 = sh j ∧ s.2.1 174 2 = nI (L + j) ∧ (∀ i, s.2.1 175 i = if L ≤ i ∧ i < L + j then bm v (i - L) else c.1 175 i) ∧ sx pT c s.2) ?_ n 4 (24, c) (by omega) ⟨0, by omega, rfl, (show (24 : Int32) = sh 0 by decide), h0, fun i => by rw [if_neg (by omega)], sx_rfl⟩) (fun a h => h)
  rintro m ⟨s, x⟩ ⟨j, hj, rfl, hs, hl, hb, hx⟩
  have hs : s = sh j := hs
  have hl : x.1 174 2 = nI (L + j) := hl
  have hb : ∀ i, x.1 175 i = if L ≤ i ∧ i < L + j then bm v (i - L) else c.1 175 i := hb
  have hx : sx pT c x := hx
  subst hs
  by_cases h4 : j = 4
  · subst h4
    refine wpt (show sh 4 < 0 by decide) ?_
    exact ⟨hl, hb, hx⟩
  have hj' : j < 4 := by omega
  refine wpf (sh_pos hj') ?_
  refine wpg (show ib (x.1 174 2) 4000 by rw [hl]; exact ib_n (by omega) (by decide)) ?_
  refine wpl (wpl (wpl ?_))
  refine ⟨4 - (j + 1), by omega, j + 1, by omega, rfl, sh_next hj', ?_, fun i => ?_, ?_⟩
  · show (pI (pI x 175 (ix (x.1 174 2)) _) 174 2 ((pI x 175 (ix (x.1 174 2)) _).1 174 2 + 1)).1 174 2 = _
    rw [rI, if_pos ⟨rfl, rfl⟩, rI, if_neg (by omega), hl, nI_1]
    rfl
  · show (pI (pI x 175 (ix (x.1 174 2)) _) 174 2 _).1 175 i = _
    rw [rI, if_neg (by omega), rI, hl, ix_n (by omega)]
    by_cases hi : i = L + j
    · rw [if_pos ⟨rfl, hi⟩, if_pos (by omega), hi, Nat.add_sub_cancel_left]
      rfl
    · rw [if_neg (fun z => hi z.2), hb]
      by_cases h3 : L ≤ i ∧ i < L + j
      · rw [if_pos h3, if_pos (by omega)]
      · rw [if_neg h3, if_neg (by omega)]
  · exact sx_pI (sx_pI hx rfl) rfl
/-- after k of five words -/
def PW (wv : Nat → Int32) (L k : Nat) (c0 c : cS) : Prop := c.1 1 1 = nI (L + 4 * k) ∧ (∀ i, c.1 2 i = if L ≤ i ∧ i < L + 4 * k then bt (wv ((i - L) / 4)) ((i - L) % 4) else c0.1 2 i) ∧ sx qT c0 c
def PM (wv : Nat → Int32) (L k : Nat) (c0 c : cS) : Prop := c.1 174 2 = nI (L + 4 * k) ∧ (∀ i, c.1 175 i = if L ≤ i ∧ i < L + 4 * k then bm (wv ((i - L) / 4)) ((i - L) % 4) else c0.1 175 i) ∧ sx pT c0 c
theorem PW_step {wv : Nat → Int32} {L k n : Nat} {c0 c : cS} {v : Int32} (hn : 5 ≤ n) (hL : L + 4 * (k + 1) ≤ 4000) (hv : wv k = v) (h : PW wv L k c0 c) : wp (d_24 n v c) (PW wv L (k + 1) c0) := by
  obtain ⟨h1, h2, h3⟩ := h
  refine wp_mono (aw_spec hn (by omega) h1) (fun c' g => ?_)
  obtain ⟨g1, g2, g3⟩ := g
  refine ⟨g1, fun i => ?_, sx_trans h3 g3⟩
  rw [g2]
  by_cases hi : L + 4 * k ≤ i ∧ i < L + 4 * k + 4
  · have e1 : (i - L) / 4 = k := by omega
    have e2 : (i - L) % 4 = i - (L + 4 * k) := by omega
    rw [if_pos hi, if_pos (by omega), e1, e2, hv]
  · rw [if_neg hi, h2]
    by_cases h4 : L ≤ i ∧ i < L + 4 * k
    · rw [if_pos h4, if_pos (by omega)]
    · rw [if_neg h4, if_neg (by omega)]
theorem PM_step {wv : Nat → Int32} {L k n : Nat} {c0 c : cS} {v : Int32} (hn : 5 ≤ n) (hL : L + 4 * (k + 1) ≤ 4000) (hv : wv k = v) (h : PM wv L k c0 c) : wp (d_94 n v c) (PM wv L (k + 1) c0) := by
  obtain ⟨h1, h2, h3⟩ := h
  refine wp_mono (fo_spec hn (by omega) h1) (fun c' g => ?_)
  obtain ⟨g1, g2, g3⟩ := g
  refine ⟨g1, fun i => ?_, sx_trans h3 g3⟩
  rw [g2]
  by_cases hi : L + 4 * k ≤ i ∧ i < L + 4 * k + 4
  · have e1 : (i - L) / 4 = k := by omega
    have e2 : (i - L) % 4 = i - (L + 4 * k) := by omega
    rw [if_pos hi, if_pos (by omega), e1, e2, hv]
  · rw [if_neg hi, h2]
    by_cases h4 : L ≤ i ∧ i < L + 4 * k
    · rw [if_pos h4, if_pos (by omega)]
    · rw [if_neg h4, if_neg (by omega)]
def w5 (a1 a2 a3 a4 a5 : Int32) (k : Nat) : Int32 := if k = 0 then a1 else if k = 1 then a2 else if k = 2 then a3 else if k = 3 then a4 else a5
/-- both end, with one answer -/
def bo (x y : Option (Int32 × cS)) (P : cS → cS → Prop) : Prop := wp x (fun r => wp y (fun q => r.1 = q.1 ∧ P r.2 q.2))
theorem c_feed {n : Nat} {a1 a2 a3 a4 a5 : Int32} {c m : cS} (hn : 5 ≤ n) (h : JT c m) : bo (d_56 n a1 a2 a3 a4 a5 c) (d_93 n a1 a2 a3 a4 a5 m) (fun c' m' => JT c' m' ∧ sx qT c c' ∧ sx pT m m') := by
  obtain ⟨L, hL, h1, h2, h3⟩ := h
  unfold bo d_56 d_93
  have e20 : nI L + 20 = nI (L + 20) := nI_add L 20
  by_cases h4 : L + 20 ≤ 4000
  · refine wpt (show c.1 1 1 + 20 ≤ 4000 by rw [h1, e20]; exact nI_le (b := 4000) h4 (by decide)) ?_
    have p0 : PW (w5 a1 a2 a3 a4 a5) L 0 c c := ⟨h1, fun i => by rw [if_neg (by omega)], sx_rfl⟩
    refine wpc (PW_step hn (by omega) rfl p0) (fun r1 p1 => ?_)
    refine wpc (PW_step hn (by omega) rfl p1) (fun r2 p2 => ?_)
    refine wpc (PW_step hn (by omega) rfl p2) (fun r3 p3 => ?_)
    refine wpc (PW_step hn (by omega) rfl p3) (fun r4 p4 => ?_)
    refine wpc (PW_step hn (by omega) rfl p4) (fun c' p5 => ?_)
    obtain ⟨u1, u2, u3⟩ := p5
    refine wpl ?_
    refine wpt (show (pI m 174 0 0).1 174 2 + 20 ≤ 4000 by rw [rI, if_neg (by omega), h2, e20]; exact nI_le (b := 4000) h4 (by decide)) ?_
    have q0 : PM (w5 a1 a2 a3 a4 a5) L 0 m (pI m 174 0 0) := ⟨by rw [rI, if_neg (by omega)]; exact h2, fun i => by rw [if_neg (by omega), rI, if_neg (by omega)], sx_pI sx_rfl rfl⟩
    refine wpc (PM_step hn (by omega) rfl q0) (fun r1 q1 => ?_)
    refine wpc (PM_step hn (by omega) rfl q1) (fun r2 q2 => ?_)
    refine wpc (PM_step hn (by omega) rfl q2) (fun r3 q3 => ?_)
    refine wpc (PM_step hn (by omega) rfl q3) (fun r4 q4 => ?_)
    refine wpc (PM_step hn (by omega) rfl q4) (fun m' q5 => ?_)
    obtain ⟨v1, v2, v3⟩ := q5
    refine ⟨u1.trans v1.symm, ⟨L + 20, h4, u1, v1, fun i hi => ?_⟩, u3, v3⟩
    show ∃ v, v < 256 ∧ m'.1 175 i = nI v ∧ c'.1 2 i = sb v
    rw [u2, v2]
    by_cases h5 : L ≤ i ∧ i < L + 4 * 5
    · rw [if_pos h5, if_pos h5]
      exact byte_rel _
    · rw [if_neg h5, if_neg h5]
      exact h3 i (by omega)
  · refine wpf (show ¬ c.1 1 1 + 20 ≤ 4000 by rw [h1, e20]; exact nI_ge (a := 4000) (by omega) (by omega)) ?_
    refine wpl ?_
    refine wpf (show ¬ (pI m 174 0 0).1 174 2 + 20 ≤ 4000 by rw [rI, if_neg (by omega), h2, e20]; exact nI_ge (a := 4000) (by omega) (by omega)) ?_
    refine ⟨rfl, ⟨L, hL, h1, ?_, fun i hi => ?_⟩, sx_rfl, sx_pI sx_rfl rfl⟩
    · show (pI m 174 0 0).1 174 2 = _
      rw [rI, if_neg (by omega)]
      exact h2
    · show ∃ v, v < 256 ∧ (pI m 174 0 0).1 175 i = nI v ∧ _
      rw [rI, if_neg (by omega)]
      exact h3 i hi
theorem c_end {n : Nat} {a : Int32} {c m : cS} (h : JT c m) : bo (d_57 n a c) (d_95 n a m) (fun c' m' => JT c' m' ∧ sx qT c c' ∧ sx pT m m') := by
  obtain ⟨L, hL, h1, h2, h3⟩ := h
  have h2' : (pI m 174 0 0).1 174 2 = nI L := by rw [rI, if_neg (by omega)]; exact h2
  have h3' : ∀ i, i < L → ∃ v, v < 256 ∧ (pI m 174 0 0).1 175 i = nI v ∧ c.1 2 i = sb v := fun i hi => by rw [rI, if_neg (by omega)]; exact h3 i hi
  have same : JT c (pI m 174 0 0) ∧ sx qT c c ∧ sx pT m (pI m 174 0 0) := ⟨⟨L, hL, h1, h2', h3'⟩, sx_rfl, sx_pI sx_rfl rfl⟩
  unfold bo d_57 d_95
  refine wpj (wpi (fun g1 => ?_) (fun g1 => ?_))
  · exact wpl (wpj (wpt g1 ⟨rfl, same⟩))
  refine wpi (fun g2 => ?_) (fun g2 => ?_)
  · refine wpl ?_
    refine wpl (wpj (wpf g1 ?_))
    refine wpt (by rw [h2', ← h1]; exact g2) (wpl ?_)
    rcases pk_ix a (n := L + 1) (by omega) with q | q | ⟨j, hj, rfl⟩
    · exact absurd q g1
    · rw [h1] at g2
      exact absurd (Int32.le_trans q g2) (nI_ge (by omega) (by omega))
    · refine ⟨rfl, ⟨j, by omega, ?_, ?_, fun i hi => ?_⟩, sx_pI sx_rfl rfl, sx_pI (sx_pI sx_rfl rfl) rfl⟩
      · show (pI c 1 1 (nI j)).1 1 1 = _
        rw [rI, if_pos ⟨rfl, rfl⟩]
      · show (pI (pI m 174 0 0) 174 2 (nI j)).1 174 2 = _
        rw [rI, if_pos ⟨rfl, rfl⟩]
      · show ∃ v, v < 256 ∧ (pI (pI m 174 0 0) 174 2 (nI j)).1 175 i = nI v ∧ (pI c 1 1 (nI j)).1 2 i = sb v
        rw [rI, if_neg (by omega), rI, if_neg (by omega)]
        exact h3' i (by omega)
  · exact wpl (wpj (wpf g1 (wpf (by rw [h2', ← h1]; exact g2) ⟨rfl, same⟩)))
