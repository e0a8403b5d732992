/-! RUN: marks that are left -/
section LEF
variable {n f M i : Nat} {c m u : cS}
/-- what the class's tests of marks stand on -/
def TST (m c : cS) : Prop := PG c m ∧ TLS c m ∧ c.1 146 8 = nI 0 ∧ FDc m c
theorem TST_sx {d : cS} {r : Nat → Nat → Bool} (h : TST m c) (hs : sx r c d) (hr : nC r) (h1 : ∀ i, r 146 i = false) (h2 : ∀ i, r 147 i = false) (h3 : ∀ i, r 148 i = false) : TST m d ∧ ∀ p o, TM m d p o = TM m c p o := by
  obtain ⟨a1, a2, a3, a4⟩ := h
  have hf : ∀ p o, fdv d p o = fdv c p o := fun p o => congrArg ix (hs.1 148 _ (h3 _))
  refine ⟨⟨PG_CA (CA_sx hs hr) a1, ?_, (hs.1 146 8 (h1 8)).trans a3, FDc_148 a4 (fun i => hs.1 148 i (h3 i))⟩, fun p o => by unfold TM; rw [hf]⟩
  refine ⟨by rw [hs.1 146 8 (h1 8)]; exact a2.1, fun z p s o hp hs' ho => ?_⟩
  rw [hs.1 146 8 (h1 8)] at z
  rw [hs.1 147 _ (h2 _)]
  exact a2.2 z p s o hp hs' ho
theorem TST_K {p s o : Nat} (h : TST m c) (hp : isP m p s) (hs : 1 ≤ s) (ho : o < ocn m) : d_190 n (nI p) (nI o) c = some (nI (TM m c p o)) ∧ TM m c p o < eln m o := by
  obtain ⟨a1, a2, a3, a4⟩ := h
  have hu : FD m c (gu c) := fun p s o' hp hs ho => by
    obtain ⟨b1, b2⟩ := a4 p s o' hp hs ho
    have hp12 := (EC_row a1.1 hp).1
    refine ⟨b1, b2, ?_⟩
    show (if (235 : Nat) = 235 then nI (fdv c ((1200 * o' + p) % 1200) ((1200 * o' + p) / 1200)) else 0) = _
    rw [if_pos rfl, show (1200 * o' + p) % 1200 = p by omega, show (1200 * o' + p) / 1200 = o' by omega]
  exact e190 a1.1.1 hp hs ho (EC_row a1.1 hp).1 a3 a2 hu
theorem e306 {k o : Nat} (h : TST m c) (hM : isMt m M) (hi : i < acn m M) (hr : RCH m M i) (hf : f < 12) (h163 : c.1 163 f = nI M) (hk : k < wnt m (40 * M + i)) (ho : o < ocn m) (hs : nbl (c.2 165 (16 * f + wts m (40 * M + i) k)) (8 + o) < eln m o) : d_306 n (nI f) (nI (fa c M + i)) (nI k) (nI o) c = some (if mBb m o (nbl (c.2 165 (16 * f + wts m (40 * M + i) k)) (8 + o)) (TM m c (wtp m M (40 * M + i) k) o) = true then nI 1 else nI 0) := by
  have hG := h.1
  have hC := hG.1.2.2.1
  have hac := MTS_ac hG.2.2 hM hi
  obtain ⟨s', hP, hs'⟩ := wtp_P hC hM hac.2.2.2.2.2.2.1 hk
  have hK := TST_K (n := n) h hP hs' ho
  have hw := wts_b hr hk
  have hd8 := hr.2.2.1
  unfold d_306
  refine eq_wp (wpt (by simp (disch := first | omega | decide) only [↓neg1, nlit, rI, rL, rI2, rL1, nI_add, pk_mul, sbT, dvT, nmd, ixT, ↓ibT, ltT, ltF, leT, leF, eqT, eqF, nM_ltT, nM_ltF, nM_leT, nM_leF, nM_eqF, nM_eqF', nbT0, nbT1, oI_s, oI_n, natF, natT, nltT, nltF, nleT, nleF, ↓reduceIte, lgc, not_true_eq_false, not_false_eq_true, or_false, false_or, or_true, true_or, and_true, true_and, and_false, false_and, ne_eq, eq_self, or_self, and_self]) ?_)
  rw [ix_n (by omega), h163]
  refine wpe (e169 hG.2.2 hC hM hi rfl hk) (wpe hK.1 (wpe (e170 hG.2.2 hM hi hr rfl hk) ?_))
  rw [show nI f * 16 + nI (wts m (40 * M + i) k) = nI (16 * f + wts m (40 * M + i) k) by
    rw [show (16 : Int32) = nI 16 from rfl, pk_mul, nI_add]
    exact congrArg nI (by omega)]
  refine wpt (by simp (disch := first | omega | decide) only [↓neg1, nlit, rI, rL, rI2, rL1, nI_add, pk_mul, sbT, dvT, nmd, ixT, ↓ibT, ltT, ltF, leT, leF, eqT, eqF, nM_ltT, nM_ltF, nM_leT, nM_leF, nM_eqF, nM_eqF', nbT0, nbT1, oI_s, oI_n, natF, natT, nltT, nltF, nleT, nleF, ↓reduceIte, lgc, not_true_eq_false, not_false_eq_true, or_false, false_or, or_true, true_or, and_true, true_and, and_false, false_and, ne_eq, eq_self, or_self, and_self]) ?_
  rw [ix_n (by omega)]
  refine wpe (e305 hG.1.1 ho hs hK.2) ?_
  by_cases z : mBb m o (nbl (c.2 165 (16 * f + wts m (40 * M + i) k)) (8 + o)) (TM m c (wtp m M (40 * M + i) k) o) = true
  · rw [if_pos z]
    exact wpt (by decide) rfl
  · rw [if_neg z]
    exact wpt (by decide) rfl
/-- the notes of what is left -/
abbrev LS4 : Type := Nat × Int32 × Int32 × Int32
def ntS (pl : Int32) (i o : Nat) (z : LS4) : LS4 := (z.1 + 1, (if z.1 = 0 then pl else z.2.1), (if z.1 = 0 then nI i else z.2.2.1), (if z.1 = 0 then nI o else z.2.2.2))
def lfK (b : Nat → Nat → Bool) (pl : Int32) (i o : Nat) (z : LS4) : Nat → LS4
  | 0 => z
  | k + 1 => if b o k = true then ntS pl i o (lfK b pl i o z k) else lfK b pl i o z k
def lfO (b : Nat → Nat → Bool) (pl : Int32) (i W : Nat) (z : LS4) : Nat → LS4
  | 0 => z
  | o + 1 => lfK b pl i o (lfO b pl i W z o) W
theorem lfK_le {b : Nat → Nat → Bool} {pl : Int32} {i o : Nat} {z : LS4} : ∀ k, z.1 ≤ (lfK b pl i o z k).1 ∧ (lfK b pl i o z k).1 ≤ z.1 + k
  | 0 => ⟨Nat.le_refl _, Nat.le_refl _⟩
  | k + 1 => by
    have h := lfK_le (b := b) (pl := pl) (i := i) (o := o) (z := z) k
    unfold lfK
    by_cases e : b o k = true
    · rw [if_pos e]
      show z.1 ≤ (lfK b pl i o z k).1 + 1 ∧ (lfK b pl i o z k).1 + 1 ≤ z.1 + (k + 1)
      omega
    · rw [if_neg e]
      omega
theorem lfO_le {b : Nat → Nat → Bool} {pl : Int32} {i W : Nat} {z : LS4} : ∀ o, z.1 ≤ (lfO b pl i W z o).1 ∧ (lfO b pl i W z o).1 ≤ z.1 + W * o
  | 0 => ⟨Nat.le_refl _, by show z.1 ≤ z.1 + W * 0; omega⟩
  | o + 1 => by
    have h1 := lfO_le (b := b) (pl := pl) (i := i) (W := W) (z := z) o
    have h2 := lfK_le (b := b) (pl := pl) (i := i) (o := o) (z := lfO b pl i W z o) W
    unfold lfO
    rw [Nat.mul_succ]
    omega
def HLc (c : cS) (z : LS4) : Prop := c.1 162 6 = nI z.1 ∧ c.1 162 7 = z.2.1 ∧ c.1 162 8 = z.2.2.1 ∧ c.1 162 9 = z.2.2.2
def HLr (u : cS) (z : LS4) : Prop := u.1 174 124 = nI z.1 ∧ u.1 174 125 = z.2.1 ∧ u.1 174 126 = z.2.2.1 ∧ u.1 174 127 = z.2.2.2
def plI (M : Nat) : Int32 := nI (100 * (M / 8) + 20 + 10 * (M % 8))
def q69 (a i : Nat) : Bool := decide (a = 162 ∧ 6 ≤ i ∧ i ≤ 9)
theorem e309 {o : Nat} {z : LS4} (hf : f < 12) (hM : M < 96) (h163 : c.1 163 f = nI M) (h164 : c.1 164 f = nI i) (hz : HLc c z) (hz2 : z.1 < 2147483000) : wp (d_309 n (nI f) (nI o) c) (fun d => HLc d (ntS (plI M) i o z) ∧ sx q69 c d) := by
  obtain ⟨h1, h2, h3, h4⟩ := hz
  have i6 : ix (6 : Int32) = 6 := by decide
  have i7 : ix (7 : Int32) = 7 := by decide
  have i8 : ix (8 : Int32) = 8 := by decide
  have i9 : ix (9 : Int32) = 9 := by decide
  have h156 : d_156 n (nI M) = some (plI M) := by
    have h1 := e156 (n := n) (k := M / 8) (j := M % 8) (by omega) (by omega)
    rw [show M / 8 * 8 + M % 8 = M by omega] at h1
    exact h1
  unfold d_309
  refine wpt (by decide) ?_
  rw [i6, h1]
  refine wpjQ (fun y : cS => y.1 162 6 = nI z.1 ∧ y.1 162 7 = (if z.1 = 0 then plI M else z.2.1) ∧ y.1 162 8 = (if z.1 = 0 then nI i else z.2.2.1) ∧ y.1 162 9 = (if z.1 = 0 then nI o else z.2.2.2) ∧ sx q69 c y) ?_ ?_
  · rintro y ⟨y1, y2, y3, y4, y5⟩
    refine wpt (by decide) (wpt (by decide) ?_)
    rw [y1]
    refine wpl ⟨⟨?_, ?_, ?_, ?_⟩, sx_pI y5 rfl⟩
    · rw [rI, if_pos ⟨rfl, rfl⟩]
      exact nI_1 _
    · rw [rI, if_neg (by omega)]
      exact y2
    · rw [rI, if_neg (by omega)]
      exact y3
    · rw [rI, if_neg (by omega)]
      exact y4
  · intro Q' k' hk'
    by_cases e : z.1 = 0
    · refine wpt (by rw [e]; rfl) (wpt (by simp (disch := first | omega | decide) only [↓neg1, nlit, rI, rL, rI2, rL1, nI_add, pk_mul, sbT, dvT, nmd, ixT, ↓ibT, ltT, ltF, leT, leF, eqT, eqF, nM_ltT, nM_ltF, nM_leT, nM_leF, nM_eqF, nM_eqF', nbT0, nbT1, oI_s, oI_n, natF, natT, nltT, nltF, nleT, nleF, ↓reduceIte, lgc, not_true_eq_false, not_false_eq_true, or_false, false_or, or_true, true_or, and_true, true_and, and_false, false_and, ne_eq, eq_self, or_self, and_self]) ?_)
      rw [ix_n (by omega), h163]
      refine wpe h156 (wpt (by decide) (wpl (wpt (by simp (disch := first | omega | decide) only [↓neg1, nlit, rI, rL, rI2, rL1, nI_add, pk_mul, sbT, dvT, nmd, ixT, ↓ibT, ltT, ltF, leT, leF, eqT, eqF, nM_ltT, nM_ltF, nM_leT, nM_leF, nM_eqF, nM_eqF', nbT0, nbT1, oI_s, oI_n, natF, natT, nltT, nltF, nleT, nleF, ↓reduceIte, lgc, not_true_eq_false, not_false_eq_true, or_false, false_or, or_true, true_or, and_true, true_and, and_false, false_and, ne_eq, eq_self, or_self, and_self]) (wpt (by decide) ?_))))
      rw [i7, i8, show (pI c 162 7 (plI M)).1 164 f = nI i by rw [rI, if_neg (by omega)]; exact h164]
      refine wpl (wpt (by decide) ?_)
      rw [i9]
      refine wpl (hk' _ ⟨?_, ?_, ?_, ?_, sx_pI (sx_pI (sx_pI sx_rfl rfl) rfl) rfl⟩)
      · rw [rI, if_neg (by omega), rI, if_neg (by omega), rI, if_neg (by omega)]
        exact h1
      · rw [if_pos e, rI, if_neg (by omega), rI, if_neg (by omega), rI, if_pos ⟨rfl, rfl⟩]
      · rw [if_pos e, rI, if_neg (by omega), rI, if_pos ⟨rfl, rfl⟩]
      · rw [if_pos e, rI, if_pos ⟨rfl, rfl⟩]
    · refine wpf (fun x => e ((nI_eq (by omega) (by decide)).mp (show nI z.1 = nI 0 from x))) (hk' c ⟨h1, ?_, ?_, ?_, sx_rfl⟩)
      · rw [if_neg e]
        exact h2
      · rw [if_neg e]
        exact h3
      · rw [if_neg e]
        exact h4
/-- which marks are left -/
def lfB (m c : cS) (f M i : Nat) (o k : Nat) : Bool := !mBb m o (nbl (c.2 165 (16 * f + wts m (40 * M + i) k)) (8 + o)) (TM m c (wtp m M (40 * M + i) k) o)
theorem e308 {z : LS4} (hn : 1000 ≤ n) (h : TST m c) (hM : isMt m M) (hi : i < acn m M) (hr : RCH m M i) (hf : f < 12) (h163 : c.1 163 f = nI M) (h164 : c.1 164 f = nI i) (hS : ∀ q o, q < 16 * (f + 1) → o < ocn m → nbl (c.2 165 q) (8 + o) < eln m o) (hz : HLc c z) (hz2 : z.1 < 2147482000) : wp (d_308 n (nI f) (nI (fa c M + i)) c) (fun d => HLc d (lfO (lfB m c f M i) (plI M) i (wnt m (40 * M + i)) z (ocn m)) ∧ sx q69 c d) := by
  have hG := h.1
  have hC := hG.1.2.2.1
  have ho4 := hG.1.1.1
  have hM96 := isMt_lt hC hM
  have hac := MTS_ac hG.2.2 hM hi
  have hw4 := wnt_le hC hac.2.2.2.2.2.2.1
  have K1 : ∀ {y : cS}, sx q69 c y → ∀ A j, ¬ (A = 162 ∧ 6 ≤ j ∧ j ≤ 9) → y.1 A j = c.1 A j := fun hy A j z => hy.1 A j (decide_eq_false z)
  have nc : nC q69 := ⟨fun a i h1 h2 h3 => decide_eq_false (by omega), fun i h => decide_eq_false (by omega)⟩
  unfold d_308
  refine wpe (e168 hG.2.2 hM hi rfl) ?_
  refine wpc (K' := fun d : cS => HLc d (lfO (lfB m c f M i) (plI M) i (wnt m (40 * M + i)) z (ocn m)) ∧ sx q69 c d) (whl_cnt (fun o (st : Int32 × cS) => st.1 = nI o ∧ o ≤ ocn m ∧ HLc st.2 (lfO (lfB m c f M i) (plI M) i (wnt m (40 * M + i)) z o) ∧ sx q69 c st.2) (ocn m) ?_ ?_ (by omega) ⟨rfl, by omega, hz, sx_rfl⟩) (fun d hd => hd)
  · rintro o ⟨o0, w⟩ ho ⟨g1, g2, g3, g4⟩
    dsimp only at g1 g2 g3 g4
    subst g1
    dsimp only
    rw [K1 g4 7 2 (by omega), hG.1.1.2.1]
    refine wpf (by simp (disch := first | omega | decide) only [↓neg1, nlit, rI, rL, rI2, rL1, nI_add, pk_mul, sbT, dvT, nmd, ixT, ↓ibT, ltT, ltF, leT, leF, eqT, eqF, nM_ltT, nM_ltF, nM_leT, nM_leF, nM_eqF, nM_eqF', nbT0, nbT1, oI_s, oI_n, natF, natT, nltT, nltF, nleT, nleF, ↓reduceIte, lgc, not_true_eq_false, not_false_eq_true, or_false, false_or, or_true, true_or, and_true, true_and, and_false, false_and, ne_eq, eq_self, or_self, and_self]) ?_
    by_cases e0 : wnt m (40 * M + i) = 0
    · refine wpt (by rw [e0]; decide) ⟨?_, g4⟩
      have hz0 : ∀ t, lfO (lfB m c f M i) (plI M) i (wnt m (40 * M + i)) z t = z := by
        intro t
        rw [e0]
        induction t with
        | zero => rfl
        | succ t ih => exact ih
      rw [hz0] at g3 ⊢
      exact g3
    · refine wpf (fun x => by
        have := Int32.le_iff_toInt_le.mp x
        rw [nI_toInt (by omega), show (0 : Int32).toInt = 0 by decide] at this
        omega) ?_
      have hbo := lfO_le (b := lfB m c f M i) (pl := plI M) (i := i) (W := wnt m (40 * M + i)) (z := z) o
      have hmul : wnt m (40 * M + i) * o ≤ 16 := Nat.le_trans (Nat.mul_le_mul hw4 (show o ≤ 4 by omega)) (by omega)
      refine wpc (K' := fun d : cS => HLc d (lfO (lfB m c f M i) (plI M) i (wnt m (40 * M + i)) z (o + 1)) ∧ sx q69 c d) (whl_cnt (fun k (st : Int32 × cS) => st.1 = nI k ∧ HLc st.2 (lfK (lfB m c f M i) (plI M) i o (lfO (lfB m c f M i) (plI M) i (wnt m (40 * M + i)) z o) k) ∧ sx q69 c st.2) (wnt m (40 * M + i)) ?_ ?_ (by omega) ⟨rfl, g3, g4⟩) (fun d hd => wpl ⟨nI_1 _, by omega, hd.1, hd.2⟩)
      · rintro k ⟨k0, y⟩ hk ⟨q1, q2, q3⟩
        dsimp only at q1 q2 q3
        subst q1
        dsimp only
        refine wpf (by simp (disch := first | omega | decide) only [↓neg1, nlit, rI, rL, rI2, rL1, nI_add, pk_mul, sbT, dvT, nmd, ixT, ↓ibT, ltT, ltF, leT, leF, eqT, eqF, nM_ltT, nM_ltF, nM_leT, nM_leF, nM_eqF, nM_eqF', nbT0, nbT1, oI_s, oI_n, natF, natT, nltT, nltF, nleT, nleF, ↓reduceIte, lgc, not_true_eq_false, not_false_eq_true, or_false, false_or, or_true, true_or, and_true, true_and, and_false, false_and, ne_eq, eq_self, or_self, and_self]) ?_
        obtain ⟨hTy, hTM⟩ := TST_sx h q3 nc (fun i => decide_eq_false (by omega)) (fun i => decide_eq_false (by omega)) (fun i => decide_eq_false (by omega))
        have y165 : ∀ q, y.2 165 q = c.2 165 q := fun q => q3.2 165 q (decide_eq_false (by omega))
        have hwb := wts_b hr hk
        have hd8 := hr.2.2.1
        have h306 := e306 (n := n) (k := k) (o := o) hTy hM hi hr hf ((K1 q3 163 f (by omega)).trans h163) hk ho (by rw [y165]; exact hS _ _ (by omega) ho)
        rw [FC_fa q3 nc, y165, hTM] at h306
        refine wpe h306 ?_
        have hlk := lfK_le (b := lfB m c f M i) (pl := plI M) (i := i) (o := o) (z := lfO (lfB m c f M i) (plI M) i (wnt m (40 * M + i)) z o) k
        have hK1 : lfK (lfB m c f M i) (plI M) i o (lfO (lfB m c f M i) (plI M) i (wnt m (40 * M + i)) z o) (k + 1) = if lfB m c f M i o k = true then ntS (plI M) i o (lfK (lfB m c f M i) (plI M) i o (lfO (lfB m c f M i) (plI M) i (wnt m (40 * M + i)) z o) k) else lfK (lfB m c f M i) (plI M) i o (lfO (lfB m c f M i) (plI M) i (wnt m (40 * M + i)) z o) k := rfl
        refine wpjQ (fun v : cS => HLc v (lfK (lfB m c f M i) (plI M) i o (lfO (lfB m c f M i) (plI M) i (wnt m (40 * M + i)) z o) (k + 1)) ∧ sx q69 c v) (fun v hv => wpl ⟨nI_1 _, hv.1, hv.2⟩) ?_
        intro Q' k' hk'
        rw [hK1] at hk'
        by_cases hb : mBb m o (nbl (c.2 165 (16 * f + wts m (40 * M + i) k)) (8 + o)) (TM m c (wtp m M (40 * M + i) k) o) = true
        · rw [if_pos hb]
          have hl : lfB m c f M i o k = false := by
            unfold lfB
            rw [hb]
            rfl
          rw [hl, if_neg (by decide)] at hk'
          exact wpf (by decide) (hk' y ⟨q2, q3⟩)
        · rw [if_neg hb]
          have hl : lfB m c f M i o k = true := by
            unfold lfB
            rw [show mBb m o (nbl (c.2 165 (16 * f + wts m (40 * M + i) k)) (8 + o)) (TM m c (wtp m M (40 * M + i) k) o) = false by simpa using hb]
            rfl
          rw [hl, if_pos rfl] at hk'
          exact wpt rfl (wpc (e309 hf hM96 ((K1 q3 163 f (by omega)).trans h163) ((K1 q3 164 f (by omega)).trans h164) q2 (by omega)) (fun v hv => hk' v ⟨hv.1, sx_trans q3 hv.2⟩))
      · rintro ⟨k0, y⟩ ⟨q1, q2, q3⟩
        dsimp only at q1 q2 q3
        subst q1
        dsimp only
        exact wpt (by simp (disch := first | omega | decide) only [↓neg1, nlit, rI, rL, rI2, rL1, nI_add, pk_mul, sbT, dvT, nmd, ixT, ↓ibT, ltT, ltF, leT, leF, eqT, eqF, nM_ltT, nM_ltF, nM_leT, nM_leF, nM_eqF, nM_eqF', nbT0, nbT1, oI_s, oI_n, natF, natT, nltT, nltF, nleT, nleF, ↓reduceIte, lgc, not_true_eq_false, not_false_eq_true, or_false, false_or, or_true, true_or, and_true, true_and, and_false, false_and, ne_eq, eq_self, or_self, and_self]) ⟨q2, q3⟩
  · rintro ⟨o0, w⟩ ⟨g1, g2, g3, g4⟩
    dsimp only at g1 g2 g3 g4
    subst g1
    dsimp only
    rw [K1 g4 7 2 (by omega), hG.1.1.2.1]
    exact wpt (by simp (disch := first | omega | decide) only [↓neg1, nlit, rI, rL, rI2, rL1, nI_add, pk_mul, sbT, dvT, nmd, ixT, ↓ibT, ltT, ltF, leT, leF, eqT, eqF, nM_ltT, nM_ltF, nM_leT, nM_leF, nM_eqF, nM_eqF', nbT0, nbT1, oI_s, oI_n, natF, natT, nltT, nltF, nleT, nleF, ↓reduceIte, lgc, not_true_eq_false, not_false_eq_true, or_false, false_or, or_true, true_or, and_true, true_and, and_false, false_and, ne_eq, eq_self, or_self, and_self]) ⟨g3, g4⟩
end LEF
