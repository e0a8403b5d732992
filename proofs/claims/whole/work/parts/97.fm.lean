/-! FLOW: the class follows a METHOD -/
def FX (c m : cS) (o M : Nat) (K : Nat → Nat) : Prop := OOS c m ∧ CCS c m ∧ MTS c m ∧ isMt m M ∧ o < ocn m ∧ okK m o K
section FXS
variable {c m : cS} {o M i : Nat} {K f g : Nat → Nat}
theorem FX_L (h : FX c m o M K) : LA o (eln m o) m ∧ lcn m M ≤ 8 ∧ acn m M ≤ 40 ∧ 1 ≤ acn m M ∧ ix (m.1 188 o) < eln m o := by
  have h1 := (h.2.2.1.2.1 M h.2.2.2.1).1
  exact ⟨(OOS_at h.1 h.2.2.2.2.1).1, h1.2.2.2.1.1, h1.1.2, h1.1.1, (bot_lt h.1 h.2.2.2.2.1).1⟩
theorem FX_tr (h : FX c m o M K) (hi : i < acn m M) (hr : RCH m M i) (hf : okF (eln m o) (8 + dpn m (40 * M + i)) f) (hg : okF (eln m o) (8 + dpn m (40 * M + i)) g) (hfg : lfF m o (8 + dpn m (40 * M + i)) f g) :
    okF (eln m o) (8 + dpb m (40 * M + i)) (trN m o K (40 * M + i) f) ∧ lfF m o (8 + dpb m (40 * M + i)) (trN m o K (40 * M + i) f) (trN m o K (40 * M + i) g) ∧ okF (eln m o) (8 + dpb m (40 * M + i)) (trL m o K (40 * M + i) f) ∧ lfF m o (8 + dpb m (40 * M + i)) (trL m o K (40 * M + i) f) (trL m o K (40 * M + i) g) := by
  have ha := MTS_ac h.2.2.1 h.2.2.2.1 hi
  have hL := (FX_L h).1
  exact tr_mono h.1 h.2.1 h.2.2.2.2.1 ha.1 ha.2.2.2.2.2.2.1 (FX_L h).2.1 hr h.2.2.2.2.2 h.2.2.2.2.2 (fun p s hp hs => LA_refl hL (h.2.2.2.2.2 p s hp hs)) hf hg hfg
theorem FX_rf (h : FX c m o M K) {k : Nat} (hf : okF (eln m o) k f) : lfF m o k f f := fun s hs => LA_refl (FX_L h).1 (hf s hs)
theorem FX_ok (h : FX c m o M K) (hi : i < acn m M) (hr : RCH m M i) (hf : okF (eln m o) (8 + dpn m (40 * M + i)) f) : okF (eln m o) (8 + dpb m (40 * M + i)) (trN m o K (40 * M + i) f) ∧ okF (eln m o) (8 + dpb m (40 * M + i)) (trL m o K (40 * M + i) f) := by
  have := FX_tr h hi hr hf hf (FX_rf h hf)
  exact ⟨this.1, this.2.2.1⟩
end FXS
section FMS
variable {c m : cS} {o M l bt : Nat} {K ent : Nat → Nat} {S S' : Nat → Int64} {B N t : Nat}
theorem GD_ok (hG : GD m o M l S) (hbt : bt < eln m o) {i : Nat} (hi : i < acn m M) (hne : S i ≠ -1) : RCH m M i ∧ WFs (eln m o) l (dpn m (40 * M + i)) (S i) ∧ okF (eln m o) (8 + dpn m (40 * M + i)) (av l bt (S i)) := by
  rcases hG i hi with h | ⟨h1, h2⟩
  · exact absurd h hne
  · exact ⟨h1, h2, av_ok h2 h1.2.2.1 hbt⟩
theorem ED_up (hX : FX c m o M K) (hbt : bt < eln m o) (hG : GD m o M l S) (hS : STEP m o M l bt K ent S S' B) {i : Nat} (hi : i < acn m M) (hne : S i ≠ -1) (h1 : ED1 m o M l bt K S i (av l bt (S i))) (h2 : ED2 m o M l bt K S i (av l bt (S i))) : ED1 m o M l bt K S' i (av l bt (S i)) ∧ ED2 m o M l bt K S' i (av l bt (S i)) := by
  obtain ⟨r1, r2, r3⟩ := GD_ok hG hbt hi hne
  have hok := FX_ok hX hi r1 r3
  have hL := (FX_L hX).1
  obtain ⟨a1, -, a3, -⟩ := hS
  refine ⟨fun hg => ?_, fun t ht ht2 => ?_⟩
  · obtain ⟨n1, n2, n3⟩ := RCH_nx hX.2.2.1 hX.2.2.2.1 hi r1 hg
    obtain ⟨e1, e2⟩ := h1 hg
    obtain ⟨b1, b2⟩ := a3 _ n1 e1
    have o1 := (GD_ok hG hbt n1 e1).2.2
    have o2 := (GD_ok a1 hbt n1 b1).2.2
    rw [n3] at b2 o1 o2
    exact ⟨b1, fun s hs => LA_tr hL (hok.1 s hs) (o1 s hs) (o2 s hs) (e2 s hs) (b2 s hs)⟩
  · obtain ⟨n2, n3⟩ := RCH_lb hX.2.2.1 hX.2.2.2.1 hi r1 ht ht2
    obtain ⟨e1, e2⟩ := h2 t ht ht2
    obtain ⟨b1, b2⟩ := a3 _ ht2 e1
    have o1 := (GD_ok hG hbt ht2 e1).2.2
    have o2 := (GD_ok a1 hbt ht2 b1).2.2
    rw [n3] at b2 o1 o2
    exact ⟨b1, fun s hs => LA_tr hL (hok.2 s hs) (o1 s hs) (o2 s hs) (e2 s hs) (b2 s hs)⟩
theorem FLI_step (hX : FX c m o M K) (hbt : bt < eln m o) (hent : okF (eln m o) 8 ent) (hF : FLI m o M l bt K ent S N) (hlow : low N t) (hS : STEP m o M l bt K ent S S' B) (hE1 : ED1 m o M l bt K S' t (av l bt (S t))) (hE2 : ED2 m o M l bt K S' t (av l bt (S t))) : FLI m o M l bt K ent S' ((N &&& (N - 1)) ||| B) := by
  obtain ⟨f1, f2, f3, f4, f5⟩ := hF
  obtain ⟨a1, a2, a3, a4, a5, a6, a7⟩ := id hS
  have hL := (FX_L hX).1
  have hn1 := (FX_L hX).2.2.2.1
  refine ⟨a1, a2, ?_, fun i hi hne hb => ?_, fun i hb => ?_⟩
  · obtain ⟨b1, b2⟩ := a3 0 (by omega) f3.1
    refine ⟨b1, fun s hs => ?_⟩
    have hd0 := (RCH_0 hX.2.2.1 hX.2.2.2.1).2
    have o1 := (GD_ok f1 hbt (i := 0) (by omega) f3.1).2.2
    have o2 := (GD_ok a1 hbt (i := 0) (by omega) b1).2.2
    rw [hd0] at b2 o1 o2
    exact LA_tr hL (hent s hs) (o1 s hs) (o2 s hs) (f3.2 s hs) (b2 s hs)
  · rw [Nat.testBit_or, Bool.or_eq_false_iff, low_cut hlow] at hb
    have hsame : S' i = S i := by
      apply Classical.byContradiction
      intro z
      have := a4 i hi z
      rw [hb.2] at this
      cases this
    by_cases e : i = t
    · rw [hsame, e]
      exact ⟨hE1, hE2⟩
    · have hN : N.testBit i = false := by
        have := hb.1
        rw [decide_eq_true e, Bool.and_true] at this
        exact this
      rw [hsame] at hne ⊢
      obtain ⟨g1, g2⟩ := f4 i hi hne hN
      exact ED_up hX hbt f1 hS hi hne g1 g2
  · rw [Nat.testBit_or, Bool.or_eq_true, low_cut hlow] at hb
    rcases hb with hb | hb
    · rw [Bool.and_eq_true] at hb
      obtain ⟨g1, g2⟩ := f5 i hb.1
      exact ⟨g1, (a3 i g1 g2).1⟩
    · exact a5 i hb
/-- the solution that the class keeps -/
def CX (l bt : Nat) (S : Nat → Int64) (i : Nat) : Option (Nat → Nat) := if S i = -1 then none else some (av l bt (S i))
theorem CX_some {i : Nat} {f : Nat → Nat} (h : CX l bt S i = some f) : S i ≠ -1 ∧ f = av l bt (S i) := by
  unfold CX at h
  by_cases e : S i = -1
  · rw [if_pos e] at h
    cases h
  · rw [if_neg e] at h
    exact ⟨e, (Option.some.inj h).symm⟩
theorem CX_of {i : Nat} (h : S i ≠ -1) : CX l bt S i = some (av l bt (S i)) := if_neg h
theorem FLI_end (hbt : bt < eln m o) (hF : FLI m o M l bt K ent S 0) : SOL m o M K ent (CX l bt S) := by
  obtain ⟨f1, f2, f3, f4, f5⟩ := hF
  refine ⟨fun i g hi hg => ?_, ⟨⟨_, CX_of f3.1, f3.2⟩, fun i g hi hg => ?_⟩, fun Y hY hC i f hi hf => ?_⟩
  · obtain ⟨h1, h2⟩ := CX_some hg
    obtain ⟨r1, r2, r3⟩ := GD_ok f1 hbt hi h1
    rw [h2]
    exact ⟨r1, r3⟩
  · obtain ⟨h1, h2⟩ := CX_some hg
    obtain ⟨g1, g2⟩ := f4 i hi h1 (by simp)
    rw [h2]
    exact ⟨fun z => ⟨_, CX_of (g1 z).1, (g1 z).2⟩, fun t ht ht2 => ⟨_, CX_of (g2 t ht ht2).1, (g2 t ht ht2).2⟩⟩
  · obtain ⟨h1, h2⟩ := CX_some hf
    rw [h2]
    exact f2 Y hY hC i hi h1
end FMS
/-- what following a METHOD writes -/
def q151 (F n : Nat) (a i : Nat) : Bool := decide (a = 151 ∧ F ≤ i ∧ i < F + n)
theorem nC_151 {F n : Nat} : nC (q151 F n) := ⟨fun a i h1 h2 h3 => decide_eq_false (by omega), fun i h => decide_eq_false (by omega)⟩
theorem FC_sx {c d m u : cS} {o : Nat} {r : Nat → Nat → Bool} (h : FC c m u o) (hd : sx r c d) (hr : nC r) (h1 : ∀ i, r 146 i = false) (h2 : ∀ i, r 147 i = false) (h3 : ∀ i, r 148 i = false) (h4 : r 150 3 = false) : FC d m u o ∧ ∀ p, TM m d p o = TM m c p o := by
  obtain ⟨a1, a2, a3, a4, a5, a6⟩ := h
  have hf : ∀ p o, fdv d p o = fdv c p o := fun p o => congrArg ix (hd.1 148 _ (h3 _))
  refine ⟨⟨PG_CA (CA_sx hd hr) a1, ?_, ?_, ?_, ?_, a6⟩, fun p => by unfold TM; rw [hf]⟩
  · refine ⟨by rw [hd.1 146 8 (h1 8)]; exact a2.1, fun z p s o hp hs ho => ?_⟩
    rw [hd.1 146 8 (h1 8)] at z
    rw [hd.1 147 _ (h2 _)]
    exact a2.2 z p s o hp hs ho
  · rw [hd.1 146 8 (h1 8)]
    exact a3
  · intro p s o hp hs ho
    rw [hf, hd.1 148 _ (h3 _)]
    exact a4 p s o hp hs ho
  · rw [hd.1 150 3 h4]
    exact a5
theorem FC_K2 {c m u : cS} {o : Nat} (h : FC c m u o) : okK m o (fun p => TM m c p o) := fun p s hp hs => (FC_K (n := 0) h hp hs).2
theorem FC_X {c m u : cS} {o M : Nat} (h : FC c m u o) (hM : isMt m M) : FX c m o M (fun p => TM m c p o) := ⟨h.1.1.1, h.1.1.2.2.1, h.1.2.2, hM, h.2.2.2.2.2, FC_K2 h⟩
theorem e167 {n a M i : Nat} {c m : cS} (hT : MTS c m) (hM : isMt m M) (hi : i < acn m M) (ha : a = fa c M + i) : d_167 n (nI a) c = some (if opn m (40 * M + i) ≠ 21 ∧ opn m (40 * M + i) ≠ 27 then nI 1 else nI 0) := by
  have hac := MTS_ac hT hM hi
  have hmt := (hT.2.1 M hM).1.2.2.2.2.2.2.2.2
  obtain ⟨hop, -, c121, -⟩ := hac
  subst ha
  unfold d_167
  by_cases h1 : opn m (40 * M + i) = 21
  · simp (disch := first | omega | decide) only [↓neg1, nlit, rI, rL, rI2, rL1, nI_add, pk_mul, sbT, dvT, nmd, ixT, ↓ibT, ltT, ltF, leT, leF, eqT, eqF, nM_ltT, nM_ltF, nM_leT, nM_leF, nM_eqF, nM_eqF', nbT0, nbT1, oI_s, oI_n, natF, natT, nltT, nltF, nleT, nleF, ↓reduceIte, lgc, not_true_eq_false, not_false_eq_true, or_false, false_or, or_true, true_or, and_true, true_and, and_false, false_and, ne_eq, eq_self, or_self, and_self, obs, ↓jn, ↓lt, ↓reduceIte, decide_true, decide_false, Bool.false_eq_true, Bool.and_true, Bool.and_false, Bool.true_and, Bool.false_and, Bool.or_false, Bool.false_or, Bool.or_true, Bool.true_or, c121, h1]
  · by_cases h2 : opn m (40 * M + i) = 27
    · simp (disch := first | omega | decide) only [↓neg1, nlit, rI, rL, rI2, rL1, nI_add, pk_mul, sbT, dvT, nmd, ixT, ↓ibT, ltT, ltF, leT, leF, eqT, eqF, nM_ltT, nM_ltF, nM_leT, nM_leF, nM_eqF, nM_eqF', nbT0, nbT1, oI_s, oI_n, natF, natT, nltT, nltF, nleT, nleF, ↓reduceIte, lgc, not_true_eq_false, not_false_eq_true, or_false, false_or, or_true, true_or, and_true, true_and, and_false, false_and, ne_eq, eq_self, or_self, and_self, obs, ↓jn, ↓lt, ↓reduceIte, decide_true, decide_false, Bool.false_eq_true, Bool.and_true, Bool.and_false, Bool.true_and, Bool.false_and, Bool.or_false, Bool.false_or, Bool.or_true, Bool.true_or, c121, h2]
    · simp (disch := first | omega | decide) only [↓neg1, nlit, rI, rL, rI2, rL1, nI_add, pk_mul, sbT, dvT, nmd, ixT, ↓ibT, ltT, ltF, leT, leF, eqT, eqF, nM_ltT, nM_ltF, nM_leT, nM_leF, nM_eqF, nM_eqF', nbT0, nbT1, oI_s, oI_n, natF, natT, nltT, nltF, nleT, nleF, ↓reduceIte, lgc, not_true_eq_false, not_false_eq_true, or_false, false_or, or_true, true_or, and_true, true_and, and_false, false_and, ne_eq, eq_self, or_self, and_self, obs, ↓jn, ↓lt, ↓reduceIte, decide_true, decide_false, Bool.false_eq_true, Bool.and_true, Bool.and_false, Bool.true_and, Bool.false_and, Bool.or_false, Bool.false_or, Bool.or_true, Bool.true_or, c121]
/-- the STATE on the way to a LABEL -/
def lbS (m : cS) (o b : Nat) (s : Int64) : Int64 := if opn m b = 29 ∧ xN m b = o then wn s (8 + dpn m b - 1) (Mo m o (nbl s (8 + dpn m b - 1)) (yN m b)) else s
theorem e204 {n a M i o : Nat} {s : Int64} {c m u : cS} (h : FC c m u o) (hM : isMt m M) (hi : i < acn m M) (hr : RCH m M i) (hs : WFs (eln m o) (lcn m M) (dpb m (40 * M + i)) s) (ha : a = fa c M + i) : d_204 n (nI a) s c = some (lbS m o (40 * M + i) s) := by
  have hac := MTS_ac h.1.2.2 hM hi
  have hmt := (h.1.2.2.2.1 M hM).1
  have ha4 : a < 1024 := by
    have := hmt.2.2.2.2.2.2.2.2
    omega
  subst ha
  obtain ⟨hop, -, c121, -, c124, c125, hR, -⟩ := hac
  obtain ⟨r1, r2, r3, r4⟩ := id hr
  rw [r1] at c125
  have h150 := h.2.2.2.2.1
  have ho := h.2.2.2.2.2
  have hO := h.1.1.1
  have ho4 := hO.1
  have hel := OOS_el hO ho
  have hRO := OOS_at hO ho
  generalize hb : 40 * M + i = b at *
  refine eq_wp ?_
  unfold d_204
  by_cases e : opn m b = 29
  · have htk := tk_of e (by omega)
    rw [show TK 29 = 1 from rfl] at htk
    have hgv := gv_of e
    rw [show GT 29 = 1 from rfl] at hgv
    have x1 := (hR.2.2.2.2.2.1 (by omega)).1
    have x2 := (hR.2.2.2.2.2.1 (by omega)).2.1
    have x5 := (hR.2.2.2.2.2.1 (by omega)).2.2.2.2.1
    have x6 := (hR.2.2.2.2.2.1 (by omega)).2.2.2.2.2
    unfold dpb at hs
    by_cases hx : xN m b = o
    · rw [hx] at x2 x5
      have u1 := hs (8 + dpn m b - 1) (by omega)
      rw [if_pos (by omega)] at u1
      obtain ⟨j1, j2, -⟩ := LA_M hRO.1 u1 x2
      have hv : lbS m o b s = wn s (8 + dpn m b - 1) (Mo m o (nbl s (8 + dpn m b - 1)) (yN m b)) := if_pos ⟨e, hx⟩
      (try dsimp only); repeat (first | with_reducible refine wpl ?_ | with_reducible refine wpj ?_ | with_reducible refine wpSl ?_ | with_reducible refine wpSr ?_ | with_reducible refine wpS ?_ | ((with_reducible refine wpt ?_ ?_); · simp (disch := first | omega | decide) only [↓neg1, nlit, rI, rL, rI2, rL1, nI_add, pk_mul, sbT, dvT, nmd, ixT, ↓ibT, ltT, ltF, leT, leF, eqT, eqF, nM_ltT, nM_ltF, nM_leT, nM_leF, nM_eqF, nM_eqF', nbT0, nbT1, oI_s, oI_n, natF, natT, nltT, nltF, nleT, nleF, ↓reduceIte, lgc, not_true_eq_false, not_false_eq_true, or_false, false_or, or_true, true_or, and_true, true_and, and_false, false_and, ne_eq, eq_self, or_self, and_self, c121, e, x5, h150, c125]; done) | ((with_reducible refine wpf ?_ ?_); · simp (disch := first | omega | decide) only [↓neg1, nlit, rI, rL, rI2, rL1, nI_add, pk_mul, sbT, dvT, nmd, ixT, ↓ibT, ltT, ltF, leT, leF, eqT, eqF, nM_ltT, nM_ltF, nM_leT, nM_leF, nM_eqF, nM_eqF', nbT0, nbT1, oI_s, oI_n, natF, natT, nltT, nltF, nleT, nleF, ↓reduceIte, lgc, not_true_eq_false, not_false_eq_true, or_false, false_or, or_true, true_or, and_true, true_and, and_false, false_and, ne_eq, eq_self, or_self, and_self, c121, e, x5, h150, c125]; done))
      rw [ix_n (by omega), c125, x6, h150, ix_n (by omega), show (8 : Int32) + nI (dpn m b) - 1 = nI (8 + dpn m b - 1) by rw [show (8 : Int32) = nI 8 from rfl, nI_add]; exact pk_sub (b := 1) (by omega)]
      refine wpe (e355 (by omega)) ?_
      (try dsimp only); repeat (first | with_reducible refine wpl ?_ | with_reducible refine wpj ?_ | with_reducible refine wpSl ?_ | with_reducible refine wpSr ?_ | with_reducible refine wpS ?_ | ((with_reducible refine wpt ?_ ?_); · simp (disch := first | omega | decide) only [↓neg1, nlit, rI, rL, rI2, rL1, nI_add, pk_mul, sbT, dvT, nmd, ixT, ↓ibT, ltT, ltF, leT, leF, eqT, eqF, nM_ltT, nM_ltF, nM_leT, nM_leF, nM_eqF, nM_eqF', nbT0, nbT1, oI_s, oI_n, natF, natT, nltT, nltF, nleT, nleF, ↓reduceIte, lgc, not_true_eq_false, not_false_eq_true, or_false, false_or, or_true, true_or, and_true, true_and, and_false, false_and, ne_eq, eq_self, or_self, and_self]; done) | ((with_reducible refine wpf ?_ ?_); · simp (disch := first | omega | decide) only [↓neg1, nlit, rI, rL, rI2, rL1, nI_add, pk_mul, sbT, dvT, nmd, ixT, ↓ibT, ltT, ltF, leT, leF, eqT, eqF, nM_ltT, nM_ltF, nM_leT, nM_leF, nM_eqF, nM_eqF', nbT0, nbT1, oI_s, oI_n, natF, natT, nltT, nltF, nleT, nleF, ↓reduceIte, lgc, not_true_eq_false, not_false_eq_true, or_false, false_or, or_true, true_or, and_true, true_and, and_false, false_and, ne_eq, eq_self, or_self, and_self]; done))
      refine wpe (e239 (by omega) (by omega)) ?_
      rw [hRO.2.2.2.2.2.2.2.1 _ _ u1 x2, j2]
      refine wpe (e356 (by omega) (by omega)) ?_
      (try dsimp only); repeat (first | with_reducible refine wpl ?_ | with_reducible refine wpj ?_ | with_reducible refine wpSl ?_ | with_reducible refine wpSr ?_ | with_reducible refine wpS ?_ | ((with_reducible refine wpt ?_ ?_); · simp (disch := first | omega | decide) only [↓neg1, nlit, rI, rL, rI2, rL1, nI_add, pk_mul, sbT, dvT, nmd, ixT, ↓ibT, ltT, ltF, leT, leF, eqT, eqF, nM_ltT, nM_ltF, nM_leT, nM_leF, nM_eqF, nM_eqF', nbT0, nbT1, oI_s, oI_n, natF, natT, nltT, nltF, nleT, nleF, ↓reduceIte, lgc, not_true_eq_false, not_false_eq_true, or_false, false_or, or_true, true_or, and_true, true_and, and_false, false_and, ne_eq, eq_self, or_self, and_self]; done) | ((with_reducible refine wpf ?_ ?_); · simp (disch := first | omega | decide) only [↓neg1, nlit, rI, rL, rI2, rL1, nI_add, pk_mul, sbT, dvT, nmd, ixT, ↓ibT, ltT, ltF, leT, leF, eqT, eqF, nM_ltT, nM_ltF, nM_leT, nM_leF, nM_eqF, nM_eqF', nbT0, nbT1, oI_s, oI_n, natF, natT, nltT, nltF, nleT, nleF, ↓reduceIte, lgc, not_true_eq_false, not_false_eq_true, or_false, false_or, or_true, true_or, and_true, true_and, and_false, false_and, ne_eq, eq_self, or_self, and_self]; done))
      exact hv.symm
    · have hv : lbS m o b s = s := if_neg (fun z => hx z.2)
      (try dsimp only); repeat (first | with_reducible refine wpl ?_ | with_reducible refine wpj ?_ | with_reducible refine wpSl ?_ | with_reducible refine wpSr ?_ | with_reducible refine wpS ?_ | ((with_reducible refine wpt ?_ ?_); · simp (disch := first | omega | decide) only [↓neg1, nlit, rI, rL, rI2, rL1, nI_add, pk_mul, sbT, dvT, nmd, ixT, ↓ibT, ltT, ltF, leT, leF, eqT, eqF, nM_ltT, nM_ltF, nM_leT, nM_leF, nM_eqF, nM_eqF', nbT0, nbT1, oI_s, oI_n, natF, natT, nltT, nltF, nleT, nleF, ↓reduceIte, lgc, not_true_eq_false, not_false_eq_true, or_false, false_or, or_true, true_or, and_true, true_and, and_false, false_and, ne_eq, eq_self, or_self, and_self, c121, e, x5, h150]; done) | ((with_reducible refine wpf ?_ ?_); · simp (disch := first | omega | decide) only [↓neg1, nlit, rI, rL, rI2, rL1, nI_add, pk_mul, sbT, dvT, nmd, ixT, ↓ibT, ltT, ltF, leT, leF, eqT, eqF, nM_ltT, nM_ltF, nM_leT, nM_leF, nM_eqF, nM_eqF', nbT0, nbT1, oI_s, oI_n, natF, natT, nltT, nltF, nleT, nleF, ↓reduceIte, lgc, not_true_eq_false, not_false_eq_true, or_false, false_or, or_true, true_or, and_true, true_and, and_false, false_and, ne_eq, eq_self, or_self, and_self, c121, e, x5, h150]; done))
      exact hv.symm
  · have hv : lbS m o b s = s := if_neg (fun z => e z.1)
    (try dsimp only); repeat (first | with_reducible refine wpl ?_ | with_reducible refine wpj ?_ | with_reducible refine wpSl ?_ | with_reducible refine wpSr ?_ | with_reducible refine wpS ?_ | ((with_reducible refine wpt ?_ ?_); · simp (disch := first | omega | decide) only [↓neg1, nlit, rI, rL, rI2, rL1, nI_add, pk_mul, sbT, dvT, nmd, ixT, ↓ibT, ltT, ltF, leT, leF, eqT, eqF, nM_ltT, nM_ltF, nM_leT, nM_leF, nM_eqF, nM_eqF', nbT0, nbT1, oI_s, oI_n, natF, natT, nltT, nltF, nleT, nleF, ↓reduceIte, lgc, not_true_eq_false, not_false_eq_true, or_false, false_or, or_true, true_or, and_true, true_and, and_false, false_and, ne_eq, eq_self, or_self, and_self, c121, e]; done) | ((with_reducible refine wpf ?_ ?_); · simp (disch := first | omega | decide) only [↓neg1, nlit, rI, rL, rI2, rL1, nI_add, pk_mul, sbT, dvT, nmd, ixT, ↓ibT, ltT, ltF, leT, leF, eqT, eqF, nM_ltT, nM_ltF, nM_leT, nM_leF, nM_eqF, nM_eqF', nbT0, nbT1, oI_s, oI_n, natF, natT, nltT, nltF, nleT, nleF, ↓reduceIte, lgc, not_true_eq_false, not_false_eq_true, or_false, false_or, or_true, true_or, and_true, true_and, and_false, false_and, ne_eq, eq_self, or_self, and_self, c121, e]; done))
    exact hv.symm
theorem lbS_ok {c m : cS} {o M i bt : Nat} {K : Nat → Nat} {s s0 : Int64} (hX : FX c m o M K) (hi : i < acn m M) (hr : RCH m M i) (h21 : opn m (40 * M + i) ≠ 21) (hs : WFs (eln m o) (lcn m M) (dpb m (40 * M + i)) s) (h0 : WFs (eln m o) (lcn m M) (dpn m (40 * M + i)) s0) (he : s = bhS m o K (40 * M + i) s0) (hav : ∀ j, j < 8 + dpb m (40 * M + i) → av (lcn m M) bt s j = trN m o K (40 * M + i) (av (lcn m M) bt s0) j) :
    WFs (eln m o) (lcn m M) (dpb m (40 * M + i)) (lbS m o (40 * M + i) s) ∧ ∀ j, j < 8 + dpb m (40 * M + i) → av (lcn m M) bt (lbS m o (40 * M + i) s) j = trL m o K (40 * M + i) (av (lcn m M) bt s0) j := by
  have hac := MTS_ac hX.2.2.1 hX.2.2.2.1 hi
  have hR := hac.2.2.2.2.2.2.1
  have hL := (FX_L hX).1
  have hl := (FX_L hX).2.1
  have hel := OOS_el hX.1 hX.2.2.2.2.1
  obtain ⟨r1, r2, r3, r4⟩ := id hr
  generalize hb : 40 * M + i = b at *
  unfold trL
  by_cases e : opn m b = 29 ∧ xN m b = o
  · have hv : lbS m o b s = wn s (8 + dpn m b - 1) (Mo m o (nbl s (8 + dpn m b - 1)) (yN m b)) := if_pos e
    have hbv : s = s0 := by
      rw [he]
      unfold bhS
      simp (disch := first | omega | decide) only [↓neg1, nlit, rI, rL, rI2, rL1, nI_add, pk_mul, sbT, dvT, nmd, ixT, ↓ibT, ltT, ltF, leT, leF, eqT, eqF, nM_ltT, nM_ltF, nM_leT, nM_leF, nM_eqF, nM_eqF', nbT0, nbT1, oI_s, oI_n, natF, natT, nltT, nltF, nleT, nleF, ↓reduceIte, lgc, not_true_eq_false, not_false_eq_true, or_false, false_or, or_true, true_or, and_true, true_and, and_false, false_and, ne_eq, eq_self, or_self, and_self, obs, ↓jn, ↓lt, ↓reduceIte, decide_true, decide_false, Bool.false_eq_true, Bool.and_true, Bool.and_false, Bool.true_and, Bool.false_and, Bool.or_false, Bool.false_or, Bool.or_true, Bool.true_or, e.1]
    have htk := tk_of e.1 (by omega)
    rw [show TK 29 = 1 from rfl] at htk
    have hgv := gv_of e.1
    rw [show GT 29 = 1 from rfl] at hgv
    have hdb : dpb m b = dpn m b := by
      unfold dpb
      omega
    rw [hdb] at hs hav r4 ⊢
    have x2 := (hR.2.2.2.2.2.1 (Or.inl e.1)).2.1
    rw [e.2] at x2
    have u1 := hs (8 + dpn m b - 1) (by omega)
    rw [if_pos (by omega)] at u1
    have hM := (LA_M hL u1 x2).1
    rw [hv]
    refine ⟨WF_set hs (by omega) (by omega) (fun _ => hM) (fun z => by omega) (fun j hj hne => Iff.rfl), fun j hj => ?_⟩
    rw [av_wn (by omega) (by omega) (by omega) (by omega)]
    by_cases ej : j = 8 + dpn m b - 1
    · rw [if_pos ej, if_pos ⟨e.1, e.2, ej⟩, hbv, av_nbl (l := lcn m M) (bt := bt) (j := 8 + dpn m b - 1) (by omega)]
    · rw [if_neg ej, if_neg (fun z => ej z.2.2)]
      exact hav j hj
  · have hv : lbS m o b s = s := if_neg e
    rw [hv]
    refine ⟨hs, fun j hj => ?_⟩
    rw [if_neg (fun z => e ⟨z.1, z.2.1⟩)]
    exact hav j hj
/-- one STATE brought, by the class -/
theorem brg {n F j M o bt : Nat} {s : Int64} {c w m u : cS} {K ent : Nat → Nat} {T : (Nat → Nat) → Nat → Nat} {i : Nat} (hn : 1000 ≤ n) (hX : FX c m o M K) (hFw : FC w m u o) (hF : F + acn m M ≤ 1024) (hbt : bt < eln m o) (hG : GD m o M (lcn m M) (fun x => w.2 151 (F + x))) (hLS : LSs m o M (lcn m M) bt K ent (fun x => w.2 151 (F + x)))
    (hi : i < acn m M) (f : Nat → Nat) (hf : okF (eln m o) (8 + dpn m (40 * M + i)) f) (hfY : ∀ Y, GOO m o M Y → CLO m o M K ent Y → ∃ g, Y i = some g ∧ lfF m o (8 + dpn m (40 * M + i)) f g)
    (hj : j < acn m M) (hr : RCH m M j) (hs : WFs (eln m o) (lcn m M) (dpn m (40 * M + j)) s) (hT : ∀ x, x < 8 + dpn m (40 * M + j) → av (lcn m M) bt s x = T f x)
    (hmono : ∀ g, okF (eln m o) (8 + dpn m (40 * M + i)) g → lfF m o (8 + dpn m (40 * M + i)) f g → lfF m o (8 + dpn m (40 * M + j)) (T f) (T g)) (hTok : ∀ g, okF (eln m o) (8 + dpn m (40 * M + i)) g → okF (eln m o) (8 + dpn m (40 * M + j)) (T g))
    (hcl : ∀ Y, GOO m o M Y → CLO m o M K ent Y → ∀ g, Y i = some g → ∃ h, Y j = some h ∧ lfF m o (8 + dpn m (40 * M + j)) (T g) h) :
    ∃ B, d_200 n (nI F) (nI j) s w = some (lN B, pL w 151 (F + j) (brS m o (w.2 151 (F + j)) s)) ∧ STEP m o M (lcn m M) bt K ent (fun x => w.2 151 (F + x)) (fun x => (pL w 151 (F + j) (brS m o (w.2 151 (F + j)) s)).2 151 (F + x)) B ∧ (pL w 151 (F + j) (brS m o (w.2 151 (F + j)) s)).2 151 (F + j) ≠ -1 ∧ lfF m o (8 + dpn m (40 * M + j)) (T f) (av (lcn m M) bt ((pL w 151 (F + j) (brS m o (w.2 151 (F + j)) s)).2 151 (F + j))) := by
  have hL := (FX_L hX).1
  have hl := (FX_L hX).2.1
  have hn40 := (FX_L hX).2.2.1
  have hb : w.2 151 (F + j) = -1 ∨ WFs (eln m o) (lcn m M) (dpn m (40 * M + j)) (w.2 151 (F + j)) := by
    rcases hG j hj with h | h
    · exact Or.inl h
    · exact Or.inr h.2
  obtain ⟨b1, b2, b3, b4, b5, b6⟩ := brS_ok (bt := bt) hL hl hr.2.2.1 hbt hb hs
  have hrn := WF_ne b1 hL.1
  have hS' : (fun x => (pL w 151 (F + j) (brS m o (w.2 151 (F + j)) s)).2 151 (F + x)) = upS (fun x => w.2 151 (F + x)) j (brS m o (w.2 151 (F + j)) s) := by
    funext x
    show (pL w 151 (F + j) _).2 151 (F + x) = if x = j then _ else _
    rw [rL]
    by_cases e : x = j
    · rw [if_pos ⟨rfl, by omega⟩, if_pos e]
    · rw [if_neg (by omega), if_neg e]
  have hat : (pL w 151 (F + j) (brS m o (w.2 151 (F + j)) s)).2 151 (F + j) = brS m o (w.2 151 (F + j)) s := by
    rw [rL, if_pos ⟨rfl, rfl⟩]
  refine ⟨if brS m o (w.2 151 (F + j)) s = w.2 151 (F + j) then 0 else 2 ^ j, ?_, ?_, ?_, ?_⟩
  · rw [e200 hn hFw.1.1.1 hFw.2.2.2.2.2 hFw.2.2.2.2.1 (by omega) hs hb]
    refine congrArg (fun z => some (z, _)) ?_
    split
    · rfl
    · exact one_shl (by omega)
  · rw [hS']
    refine STEP_up hL hbt hn40 hG hj ?_ ?_ hrn (fun hne => b3 hne) b5 b6
    · intro x hx
      show (if x = j then _ else _) = _ ∨ _
      unfold upS
      by_cases e : x = j
      · rw [if_pos e, e]
        exact Or.inr ⟨hr, b1⟩
      · rw [if_neg e]
        exact hG x hx
    · intro Y hY hC x hx hne
      unfold upS at hne ⊢
      by_cases e : x = j
      · subst e
        rw [if_pos rfl]
        obtain ⟨g, g1, g2⟩ := hfY Y hY hC
        have gok := (hY i g hi g1).2
        obtain ⟨h, h1, h2⟩ := hcl Y hY hC g g1
        have hok := (hY x h hx h1).2
        refine ⟨h, h1, b4 h hok (fun y hy => ?_) (fun hn y hy => ?_)⟩
        · rw [hT y hy]
          exact LA_tr hL (hTok f hf y hy) (hTok g gok y hy) (hok y hy) (hmono g gok g2 y hy) (h2 y hy)
        · obtain ⟨h', h1', h2'⟩ := hLS Y hY hC x hx hn
          rw [h1] at h1'
          cases h1'
          exact h2' y hy
      · rw [if_neg e] at hne ⊢
        exact hLS Y hY hC x hx hne
  · rw [hat]
    exact hrn
  · rw [hat]
    intro x hx
    rw [← hT x hx]
    exact b2 x hx
