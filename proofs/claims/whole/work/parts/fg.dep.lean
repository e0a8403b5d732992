/-! DEPTHS: what an ACT takes and gives, coming to an ACT -/
section DEP
variable {n i j N k M a b a0 na op B X e t x : Nat} {c d u v w q c0 u0 c' u' : cS}
/-- an ACT whose names are settled, whatever its DEPTH -/
def ACD (c u : cS) (M a b : Nat) : Prop := ∃ op, (14 ≤ op ∧ op ≤ 30) ∧ c.1 121 a = nI (200 + op) ∧ u.1 211 b = nI op ∧ c.2 127 a = u.2 212 b ∧ (c.1 124 a = u.1 216 b ∧ c.1 126 a = nI 0) ∧ c.1 130 a = u.1 213 b ∧ OPR c u M a b
theorem ACN_D (h : ACN c u M a b) : ACD c u M a b := by
  obtain ⟨op, h1, h2, h3, h4, ⟨h5, h6, h7⟩, h8, h9⟩ := h
  exact ⟨op, h1, h2, h3, h4, ⟨h5, h7⟩, h8, h9⟩
def acW3 (a A l : Nat) : Prop := (121 ≤ A ∧ A ≤ 132 ∧ A ≠ 125 ∧ l = a) ∨ (134 ≤ A ∧ A ≤ 144)
theorem OPR_c3 (h : OPR c u M a b) (hc : ∀ A l, acW3 a A l → c'.1 A l = c.1 A l ∧ c'.2 A l = c.2 A l) : OPR c' u M a b := by
  unfold acW3 at hc
  obtain ⟨h1, h2, h3, h4, h5, h6, h7, h8⟩ := h
  have hch : ∀ k, ch c' (1218 + a) k = ch c (1218 + a) k := fun k => by
    induction k with
    | zero => exact (hc 142 _ (by omega)).1
    | succ k ih =>
      show c'.1 138 (ix (ch c' (1218 + a) k)) = c.1 138 (ix (ch c (1218 + a) k))
      rw [ih]
      exact (hc 138 _ (by omega)).1
  have hmi : ∀ k, mi c' (1218 + a) k = mi c (1218 + a) k := fun k => by
    unfold mi
    rw [hch]
  have hT : ∀ {z : opn u b ≤ 15}, TLR c' u a b := fun {z} => by
    obtain ⟨t1, t2, t3, t4, t5⟩ := h2 z
    refine ⟨t1, t2, by rw [(hc 144 _ (by omega)).1]; exact t3, fun k hk => ?_, by rw [(hc 123 a (by omega)).1]; exact t5⟩
    rw [hch, hmi, (hc 134 _ (by omega)).2, (hc 135 _ (by omega)).1, (hc 136 _ (by omega)).1, (hc 137 _ (by omega)).1, (hc 139 _ (by omega)).2, (hc 140 _ (by omega)).1, (hc 141 _ (by omega)).2]
    exact t4 k hk
  unfold OPR
  rw [(hc 122 a (by omega)).1, (hc 123 a (by omega)).1, (hc 128 a (by omega)).2, (hc 129 a (by omega)).2]
  exact ⟨h1, fun z => hT (z := z), h3, h4, h5, h6, h7, h8⟩
theorem ACD_cg (h : ACD c u M a b) (hc : ∀ A l, acW3 a A l → c'.1 A l = c.1 A l ∧ c'.2 A l = c.2 A l) (hu : ∀ A l, auW b A l → u'.1 A l = u.1 A l ∧ u'.2 A l = u.2 A l) : ACD c' u' M a b := by
  obtain ⟨op, h1, h2, h3, h4, ⟨h5, h7⟩, h8, h9⟩ := h
  have h9' := OPR_cg (OPR_c3 h9 hc) (c' := c') (fun _ _ _ => ⟨rfl, rfl⟩) hu
  unfold auW at hu
  unfold acW3 at hc
  exact ⟨op, h1, by rw [(hc _ _ (by omega)).1]; exact h2, by rw [(hu _ _ (by omega)).1]; exact h3, by rw [(hc _ _ (by omega)).2, (hu _ _ (by omega)).2]; exact h4, ⟨by rw [(hc _ _ (by omega)).1, (hu _ _ (by omega)).1]; exact h5, by rw [(hc _ _ (by omega)).1]; exact h7⟩, by rw [(hc _ _ (by omega)).1, (hu _ _ (by omega)).1]; exact h8, h9'⟩
/-- takes, gives, goes on: both -/
def DEV (n : Nat) (c u : cS) (a b : Nat) : Prop := d_165 n (nI a) c = some (nI (tkn u b)) ∧ d_166 n (nI a) c = some (nI (gvn u b)) ∧ d_167 n (nI a) c = some (if opn u b ≠ 21 ∧ opn u b ≠ 27 then nI 1 else nI 0) ∧ d_417 n (nI b) u = some (nI (tkn u b)) ∧ d_418 n (nI b) u = some (nI (gvn u b)) ∧ tkn u b ≤ 4 ∧ gvn u b ≤ 2
theorem dev_of (hC : CCS c u) (ha : a < 1024) (hb : 40 * M + i < 3840) (h : ACD c u M a (40 * M + i)) : DEV n c u a (40 * M + i) := by
  obtain ⟨op, ho, c121, u211, -, -, -, hO⟩ := h
  have hop : opn u (40 * M + i) = op := by
    unfold opn
    rw [u211, ix_n (by omega)]
  have hac : u.1 211 (40 * M + i) = nI (opn u (40 * M + i)) := by
    rw [hop]
    exact u211
  have g418 := e418 (n := n) (M := M) (i := i) AG_rfl hac (by rw [hop]; exact ho) hb
  have h417 : d_417 n (nI (40 * M + i)) u = some (nI (tkn u (40 * M + i))) ∧ tkn u (40 * M + i) ≤ 4 ∧ d_165 n (nI a) c = some (nI (tkn u (40 * M + i))) := by
    by_cases e20 : op = 20
    · obtain ⟨p1, p2, p3, p4, p5, p6, -⟩ := hO.2.2.2.2.1 (by rw [hop]; exact e20)
      have hq8 := (hC.1.2.2.2.2.1 _ p1).1
      have h12 := (CCS_p hC).1
      obtain ⟨p7, p8, p9⟩ := hC.1.2.2.2.2.2 _ _ p1 p2
      have hibx : ib (nI (8 * xN u (40 * M + i) + yN u (40 * M + i))) 96 := ib_n (by omega) (by decide)
      have hmul : (8 : Int32) * nI (xN u (40 * M + i)) + nI (yN u (40 * M + i)) = nI (8 * xN u (40 * M + i) + yN u (40 * M + i)) := by rw [show (8 : Int32) = nI 8 from rfl, pk_mul, nI_add]
      rw [tk_20 (by rw [hop]; exact e20)]
      refine ⟨?_, p7, ?_⟩
      · have hibb : ib (nI (40 * M + i)) 3840 := ib_n hb (by decide)
        unfold d_417
        rw [show ix (nI (40 * M + i)) = 40 * M + i from ix_n (by omega), u211, e20, p3, p4, hmul, show ix (nI (8 * xN u (40 * M + i) + yN u (40 * M + i))) = 8 * xN u (40 * M + i) + yN u (40 * M + i) from ix_n (by omega), p9]
        exact eq_wp (wpt hibb (wpj (wpj (wpj (wpf (by decide) (wpf (by decide) (wpf (by decide) (wpt (by decide) (wpt hibb (wpt hibb (wpt hibx rfl)))))))))))
      · rw [← tk_20 (by rw [hop]; exact e20)]
        exact e165 (fun _ => p6) (by rw [hop]; exact c121) ha (by rw [hop]; exact e20)
    · refine ⟨e417 AG_rfl hac (by rw [hop]; exact ho) hb (by rw [hop]; exact e20), ?_, ?_⟩
      · rcases op17 ho with e | e | e | e | e | e | e | e | e | e | e | e | e | e | e | e | e
        all_goals first
          | exact absurd e e20
          | (rw [tk_of (hop.trans e) (by decide)]
             decide)
      · have hia : ib (nI a) 1024 := ib_n ha (by decide)
        unfold d_165
        rw [show ix (nI a) = a from ix_n (by omega), c121]
        rcases op17 ho with e | e | e | e | e | e | e | e | e | e | e | e | e | e | e | e | e
        all_goals first
          | exact absurd e e20
          | (rw [tk_of (hop.trans e) (by decide), e]
             exact eq_wp (wpt hia (wpj (wpf (by decide) (wpt hia (wpt (by decide) (wp_of rfl (by decide)))))))
            )
  have h166 : d_166 n (nI a) c = some (nI (gvn u (40 * M + i))) ∧ gvn u (40 * M + i) ≤ 2 := by
    have hia : ib (nI a) 1024 := ib_n ha (by decide)
    unfold d_166
    rw [show ix (nI a) = a from ix_n (by omega), c121]
    rcases op17 ho with e | e | e | e | e | e | e | e | e | e | e | e | e | e | e | e | e
    all_goals
      rw [gv_of (hop.trans e), e]
      exact ⟨eq_wp (wpt hia (wpt (by decide) (wp_of rfl (by decide)))), by decide⟩
  have h167 : d_167 n (nI a) c = some (if opn u (40 * M + i) ≠ 21 ∧ opn u (40 * M + i) ≠ 27 then nI 1 else nI 0) := by
    rw [hop]
    unfold d_167
    by_cases h1 : op = 21
    · simp (disch := first | omega | decide) only [↓neg1, nlit, rI, rL, rI2, rL1, nI_add, pk_mul, sbT, dvT, nmd, ixT, ↓ibT, ltT, ltF, leT, leF, eqT, eqF, nM_ltT, nM_ltF, nM_leT, nM_leF, nM_eqF, nM_eqF', nbT0, nbT1, oI_s, oI_n, natF, natT, nltT, nltF, nleT, nleF, ↓reduceIte, lgc, not_true_eq_false, not_false_eq_true, or_false, false_or, or_true, true_or, and_true, true_and, and_false, false_and, ne_eq, eq_self, or_self, and_self, obs, ↓jn, ↓lt, ↓reduceIte, decide_true, decide_false, Bool.false_eq_true, Bool.and_true, Bool.and_false, Bool.true_and, Bool.false_and, Bool.or_false, Bool.false_or, Bool.or_true, Bool.true_or, c121, h1]
    · by_cases h2 : op = 27
      · simp (disch := first | omega | decide) only [↓neg1, nlit, rI, rL, rI2, rL1, nI_add, pk_mul, sbT, dvT, nmd, ixT, ↓ibT, ltT, ltF, leT, leF, eqT, eqF, nM_ltT, nM_ltF, nM_leT, nM_leF, nM_eqF, nM_eqF', nbT0, nbT1, oI_s, oI_n, natF, natT, nltT, nltF, nleT, nleF, ↓reduceIte, lgc, not_true_eq_false, not_false_eq_true, or_false, false_or, or_true, true_or, and_true, true_and, and_false, false_and, ne_eq, eq_self, or_self, and_self, obs, ↓jn, ↓lt, ↓reduceIte, decide_true, decide_false, Bool.false_eq_true, Bool.and_true, Bool.and_false, Bool.true_and, Bool.false_and, Bool.or_false, Bool.false_or, Bool.or_true, Bool.true_or, c121, h2]
      · simp (disch := first | omega | decide) only [↓neg1, nlit, rI, rL, rI2, rL1, nI_add, pk_mul, sbT, dvT, nmd, ixT, ↓ibT, ltT, ltF, leT, leF, eqT, eqF, nM_ltT, nM_ltF, nM_leT, nM_leF, nM_eqF, nM_eqF', nbT0, nbT1, oI_s, oI_n, natF, natT, nltT, nltF, nleT, nleF, ↓reduceIte, lgc, not_true_eq_false, not_false_eq_true, or_false, false_or, or_true, true_or, and_true, true_and, and_false, false_and, ne_eq, eq_self, or_self, and_self, obs, ↓jn, ↓lt, ↓reduceIte, decide_true, decide_false, Bool.false_eq_true, Bool.and_true, Bool.and_false, Bool.true_and, Bool.false_and, Bool.or_false, Bool.false_or, Bool.or_true, Bool.true_or, c121]
  exact ⟨h417.2.2, h166.1, h167, h417.1, g418, h417.2.1, h166.2⟩
/-- coming to an ACT -/
theorem cm_go (hj : j < na) (ha0 : a0 + na ≤ 1024) (hM : M < 96) (hna : na ≤ 40) (he : e ≤ 8) (h13 : u.1 174 13 = nI 0) (hD : c.1 125 (a0 + j) = u.1 230 (40 * M + j)) (hv : u.1 230 (40 * M + j) = nM ∨ ∃ d, d ≤ 8 ∧ u.1 230 (40 * M + j) = nI d) (h130 : c.1 130 (a0 + j) = u.1 213 (40 * M + j)) :
    (u.1 230 (40 * M + j) = nM ∧ d_291 n (nI a0) (nI j) (nI e) c = some (.inl (lN (2 ^ j), pI c 125 (a0 + j) (nI e))) ∧ d_420 n (nI (40 * M + j)) (nI e) u = some (pI u 230 (40 * M + j) (nI e))) ∨
    (u.1 230 (40 * M + j) = nI e ∧ d_291 n (nI a0) (nI j) (nI e) c = some (.inl (lN 0, c)) ∧ d_420 n (nI (40 * M + j)) (nI e) u = some u) ∨
    (∃ z, d_291 n (nI a0) (nI j) (nI e) c = some (.inr z) ∧ d_420 n (nI (40 * M + j)) (nI e) u = some (flt u 8 (u.1 213 (40 * M + j))) ∧ FLR c u z (flt u 8 (u.1 213 (40 * M + j)))) := by
  have hia : ib (nI (a0 + j)) 1024 := ib_n (by omega) (by decide)
  have ea : ix (nI (a0 + j)) = a0 + j := ix_n (by omega)
  have hib : ib (nI (40 * M + j)) 3840 := ib_n (by omega) (by decide)
  have eb : ix (nI (40 * M + j)) = 40 * M + j := ix_n (by omega)
  have eaj : nI a0 + nI j = nI (a0 + j) := nI_add _ _
  have hshl := one_shl (j := j) (by omega)
  rcases hv with hv | ⟨d, hd, hv⟩
  · refine Or.inl ⟨hv, ?_, ?_⟩
    · rw [hv] at hD
      unfold d_291
      rw [eaj]
      refine eq_wp (wpl ?_)
      rw [ea, hD]
      refine wpt hia (wpj (wpt (by decide) (wpt hia (wpj ?_))))
      rw [hD]
      refine wpf (by decide) (wpt hia (wpl (wpj (wpf (by decide) ?_))))
      rw [hshl]
      rfl
    · unfold d_420
      rw [eb, hv]
      refine eq_wp (wpt hib (wpj (wpt (by decide) (wpt hib (wpj ?_)))))
      rw [hv]
      exact wpf (by decide) (wpt hib (wpl rfl))
  · rw [hv] at hD
    have hd0 : ¬ nI d < 0 := nI_pos (by omega)
    have hd1 : (0 : Int32) ≤ nI d := nI_le (a := 0) (by omega) (by omega)
    by_cases ed : d = e
    · subst ed
      refine Or.inr (Or.inl ⟨hv, ?_, ?_⟩)
      · unfold d_291
        rw [eaj]
        refine eq_wp (wpl ?_)
        rw [ea, hD]
        refine wpt hia (wpj (wpf hd0 (wpt hia (wpt rfl (wpt hia (wpj ?_))))))
        rw [hD, pI_self hD]
        exact wpt hd1 (wpt hia (wpl (wpj (wpt rfl rfl))))
      · unfold d_420
        rw [eb, hv]
        refine eq_wp (wpt hib (wpj (wpf hd0 (wpt hib (wpt rfl (wpt hib (wpj ?_)))))))
        rw [hv]
        exact wpt hd1 rfl
    · have hne : ¬ nI d = nI e := fun z => ed ((nI_eq (by omega) (by omega)).mp z)
      refine Or.inr (Or.inr ⟨flC c 8 (u.1 213 (40 * M + j)), ?_, ?_, FLR_of sx_rfl sx_rfl⟩)
      · unfold d_291
        rw [eaj]
        refine eq_wp (wpl ?_)
        rw [ea, hD, h130]
        exact wpt hia (wpj (wpf hd0 (wpt hia (wpf hne (wpt hia (wpe e41 (wpSr rfl)))))))
      · have f1 := (flt_at (u := u) (a := 8) (f := u.1 213 (40 * M + j))).2.2.2 230 (40 * M + j) (by omega)
        unfold d_420
        rw [eb, hv]
        refine eq_wp (wpt hib (wpj (wpf hd0 (wpt hib (wpf hne (wpt hib (wpe (e97 h13) (wpt hib (wpj ?_)))))))))
        rw [f1, hv]
        exact wpt hd1 rfl
/-- the reference, when something is wrong -/
theorem d420_w {y : Int32} (hb : b < 3840) (h13 : u.1 174 13 = nI 1) : ∃ q, d_420 n (nI b) y u = some q ∧ sx (fun A _ => decide (A = 230)) u q := by
  have hib : ib (nI b) 3840 := ib_n hb (by decide)
  have key : wp (d_420 n (nI b) y u) (sx (fun A _ => decide (A = 230)) u) := by
    have fin : wp (if ib (nI b) 3840 then
    jn (fun p4 : cS =>
      some p4)
    (fun j47 =>
    if 0 ≤ (u.1 230 (ix (nI b))) then
      j47 u
    else
      if ib (nI b) 3840 then
      lt (pI u 230 (ix (nI b)) y) (fun c6 =>
      j47 c6)
      else none)
    else none) (sx (fun A _ => decide (A = 230)) u) := wpt hib (wpj (wpi (fun _ => sx_rfl) (fun _ => wpt hib (wpl (sx_pI sx_rfl rfl)))))
    unfold d_420
    exact wpt hib (wpj (wpi (fun _ => fin) (fun _ => wpt hib (wpi (fun _ => fin) (fun _ => wpt hib (wpe (e97w h13) fin))))))
  exact wp_ex key
/-! the DEPTHS of a METHOD on the way -/
def qDc (a0 na A l : Nat) : Bool := decide (A = 125 ∧ a0 ≤ l ∧ l < a0 + na)
def qDu (M A l : Nat) : Bool := decide ((A = 230 ∧ 40 * M ≤ l ∧ l < 40 * M + 40) ∨ A = 231)
theorem qDc_c (h : sx (qDc a0 na) c d) : sx QRc c d := sx_wide h (fun A j z => by
  have := of_decide_eq_false z
  exact decide_eq_false (by omega))
theorem qDu_u (h : sx (qDu M) u v) : sx QRu u v := sx_wide h (fun A j z => by
  have := of_decide_eq_false z
  exact decide_eq_false (by omega))
/-- an ACT that was gone over -/
def DPO (u0 u : cS) (M na i : Nat) : Prop := ∃ d, u.1 230 (40 * M + i) = nI d ∧ tkn u0 (40 * M + i) ≤ d ∧ d ≤ 8 ∧ d - tkn u0 (40 * M + i) + gvn u0 (40 * M + i) ≤ 8 ∧ (goesN u0 (40 * M + i) → i + 1 < na ∧ u.1 230 (40 * M + (i + 1)) = nI (d - tkn u0 (40 * M + i) + gvn u0 (40 * M + i))) ∧ ∀ t, u0.1 216 (40 * M + i) = nI t → t < na → u.1 230 (40 * M + t) = nI (d - tkn u0 (40 * M + i) + gvn u0 (40 * M + i))
/-- X: the ACT that is being gone over -/
def DPI (c0 u0 : cS) (M a0 na X B k : Nat) (c u : cS) : Prop := sx (qDc a0 na) c0 c ∧ sx (qDu M) u0 u ∧ (∀ i, i < na → c.1 125 (a0 + i) = u.1 230 (40 * M + i) ∧ (u.1 230 (40 * M + i) = nM ∨ ∃ d, d ≤ 8 ∧ u.1 230 (40 * M + i) = nI d)) ∧ u.1 230 (40 * M) = nI 0 ∧ (∀ i, i < na → (u.1 231 i = nI 0 ∨ u.1 231 i = nI 1) ∧ (u.1 231 i = nI 1 → u.1 230 (40 * M + i) ≠ nM)) ∧ (B < 2 ^ na ∧ ∀ i, i < na → (B.testBit i = true ↔ u.1 230 (40 * M + i) ≠ nM ∧ u.1 231 i = nI 0)) ∧ (∀ i, i < na → i ≠ X → u.1 231 i = nI 1 → DPO u0 u M na i) ∧ k = cntN (fun i => decide (u.1 231 i = nI 1)) na
def CMR (M a0 j e : Nat) (c u : cS) (bit : Nat) (c' u' : cS) : Prop := (u.1 230 (40 * M + j) = nM ∧ bit = 2 ^ j ∧ c' = pI c 125 (a0 + j) (nI e) ∧ u' = pI u 230 (40 * M + j) (nI e)) ∨ (u.1 230 (40 * M + j) = nI e ∧ bit = 0 ∧ c' = c ∧ u' = u)
theorem nI_nM {d : Nat} (hd : d ≤ 8) : nI d ≠ nM := fun z => (nM_eqF (by omega)).mp z
theorem CM_keep {bit : Nat} (h : DPI c0 u0 M a0 na X B k c u) (hj : j < na) (hna : na ≤ 40) (he : e ≤ 8) (hr : CMR M a0 j e c u bit c' u') : DPI c0 u0 M a0 na X (B ||| bit) k c' u' ∧ u'.1 230 (40 * M + j) = nI e ∧ ∀ l, u.1 230 l ≠ nM → u'.1 230 l = u.1 230 l := by
  rcases hr with ⟨r1, rfl, rfl, rfl⟩ | ⟨r1, rfl, rfl, rfl⟩
  rotate_left
  · rw [Nat.or_zero]
    exact ⟨h, r1, fun _ _ => rfl⟩
  obtain ⟨h1, h2, h3, h4, h5, ⟨h6, h7⟩, h8, h9⟩ := h
  have mono : ∀ l, u.1 230 l ≠ nM → (pI u 230 (40 * M + j) (nI e)).1 230 l = u.1 230 l := fun l z => by
    rw [rI]
    by_cases el : l = 40 * M + j
    · rw [el] at z
      exact absurd r1 z
    · rw [if_neg (fun y => el y.2)]
  have eq31 : ∀ l, (pI u 230 (40 * M + j) (nI e)).1 231 l = u.1 231 l := fun l => by rw [rI, if_neg (by omega)]
  have atj : (pI u 230 (40 * M + j) (nI e)).1 230 (40 * M + j) = nI e := by rw [rI, if_pos ⟨rfl, rfl⟩]
  have hne := nI_nM he
  have oth : ∀ i, i ≠ j → (pI u 230 (40 * M + j) (nI e)).1 230 (40 * M + i) = u.1 230 (40 * M + i) := fun i z => by rw [rI, if_neg (by omega)]
  have hj31 : u.1 231 j = nI 0 := by
    rcases (h5 j hj).1 with z | z
    · exact z
    · exact absurd r1 ((h5 j hj).2 z)
  refine ⟨⟨sx_pI h1 (decide_eq_true (by omega)), sx_pI h2 (decide_eq_true (by omega)), fun i hi => ?_, ?_, fun i hi => ?_, ⟨?_, fun i hi => ?_⟩, fun i hi z1 z2 => ?_, ?_⟩, atj, mono⟩
  · by_cases ei : i = j
    · subst ei
      rw [atj, rI, if_pos ⟨rfl, rfl⟩]
      exact ⟨rfl, Or.inr ⟨e, he, rfl⟩⟩
    · rw [oth i ei, rI, if_neg (by omega)]
      exact h3 i hi
  · rw [mono _ (by rw [h4]; decide)]
    exact h4
  · rw [eq31]
    refine ⟨(h5 i hi).1, fun z => ?_⟩
    rw [mono _ ((h5 i hi).2 z)]
    exact (h5 i hi).2 z
  · exact Nat.or_lt_two_pow h6 (Nat.pow_lt_pow_right (by decide) hj)
  · rw [Nat.testBit_or, Nat.testBit_two_pow, eq31]
    by_cases ei : i = j
    · subst ei
      rw [atj, decide_eq_true rfl, Bool.or_true, hj31]
      exact ⟨fun _ => ⟨hne, rfl⟩, fun _ => rfl⟩
    · rw [oth i ei, decide_eq_false (fun z => ei z.symm), Bool.or_false]
      exact h7 i hi
  · rw [eq31] at z2
    obtain ⟨d, p1, p2, p3, p4, p5, p6⟩ := h8 i hi z1 z2
    refine ⟨d, by rw [mono _ (by rw [p1]; exact nI_nM p3)]; exact p1, p2, p3, p4, fun z => ⟨(p5 z).1, ?_⟩, fun t y1 y2 => ?_⟩
    · rw [mono _ (by rw [(p5 z).2]; exact nI_nM p4)]
      exact (p5 z).2
    · rw [mono _ (by rw [p6 t y1 y2]; exact nI_nM p4)]
      exact p6 t y1 y2
  · rw [h9]
    exact congrArg (fun f => cntN f na) (funext fun i => by rw [eq31])
end DEP
