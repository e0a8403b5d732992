/-! FLOW: the class leads on, follows a METHOD -/
theorem FC_fa {c w : cS} {M : Nat} {r : Nat → Nat → Bool} (hw : sx r c w) (hr : nC r) : fa w M = fa c M := fa_CA (CA_sx hw hr)
theorem e199 {n M o bt t F : Nat} {c w m u : cS} {K ent : Nat → Nat} (hn : 1000 ≤ n) (hX : FX c m o M K) (hFw : FC w m u o) (hK : ∀ p, TM m w p o = K p) (hfa : fa w M = F) (hF : F + acn m M ≤ 1024) (hbt : bt < eln m o) (hG : GD m o M (lcn m M) (fun x => w.2 151 (F + x))) (hLS : LSs m o M (lcn m M) bt K ent (fun x => w.2 151 (F + x)))
    (ht : t < acn m M) (hne : w.2 151 (F + t) ≠ -1) : wp (d_199 n (nI F) (nI t) w) (fun r => ∃ B, r.1 = lN B ∧ sx (q151 F (acn m M)) w r.2 ∧ STEP m o M (lcn m M) bt K ent (fun x => w.2 151 (F + x)) (fun x => r.2.2 151 (F + x)) B ∧ ED1 m o M (lcn m M) bt K (fun x => r.2.2 151 (F + x)) t (av (lcn m M) bt (w.2 151 (F + t))) ∧ ED2 m o M (lcn m M) bt K (fun x => r.2.2 151 (F + x)) t (av (lcn m M) bt (w.2 151 (F + t)))) := by
  have hL := (FX_L hX).1
  obtain ⟨r1, r2, r3⟩ := GD_ok hG hbt ht hne
  have hM := hX.2.2.2.1
  have hKf : (fun p => TM m w p o) = K := funext hK
  have h202 := e202 (n := n) hn hFw hM ht r1 r2 (a := F + t) (by rw [hfa])
  rw [hKf] at h202
  have h167 := e167 (n := n) hFw.1.2.2 hM ht (a := F + t) (by rw [hfa])
  have hac := MTS_ac hFw.1.2.2 hM ht
  have h124 : w.1 124 (F + t) = m.1 216 (40 * M + t) := by
    have := hac.2.2.2.2.1
    rwa [hfa] at this
  have hlab := hac.2.2.2.2.2.2.1.2.2.2.2.2.2
  have hXw : FX w m o M K := ⟨hFw.1.1.1, hFw.1.1.2.2.1, hFw.1.2.2, hM, hX.2.2.2.2.1, hX.2.2.2.2.2⟩
  have hfok := r3
  have hfY : ∀ Y, GOO m o M Y → CLO m o M K ent Y → ∃ g, Y t = some g ∧ lfF m o (8 + dpn m (40 * M + t)) (av (lcn m M) bt (w.2 151 (F + t))) g := fun Y hY hC => hLS Y hY hC t ht hne
  generalize hsb : bhS m o K (40 * M + t) (w.2 151 (F + t)) = sb at h202
  have hbh : opn m (40 * M + t) ≠ 21 → WFs (eln m o) (lcn m M) (dpb m (40 * M + t)) sb ∧ ∀ j, j < 8 + dpb m (40 * M + t) → av (lcn m M) bt sb j = trN m o K (40 * M + t) (av (lcn m M) bt (w.2 151 (F + t))) j := by
    intro h21
    rw [← hsb]
    exact bhS_ok hXw.1 hXw.2.1 hX.2.2.2.2.1 hac.1 hac.2.2.2.2.2.2.1 (FX_L hX).2.1 h21 r1 hX.2.2.2.2.2 r2
  unfold d_199
  refine wpl ?_
  rw [nI_add]
  refine wpt (by simp (disch := first | omega | decide) only [↓neg1, nlit, rI, rL, rI2, rL1, nI_add, pk_mul, sbT, dvT, nmd, ixT, ↓ibT, ltT, ltF, leT, leF, eqT, eqF, nM_ltT, nM_ltF, nM_leT, nM_leF, nM_eqF, nM_eqF', nbT0, nbT1, oI_s, oI_n, natF, natT, nltT, nltF, nleT, nleF, ↓reduceIte, lgc, not_true_eq_false, not_false_eq_true, or_false, false_or, or_true, true_or, and_true, true_and, and_false, false_and, ne_eq, eq_self, or_self, and_self]) ?_
  rw [ix_n (by omega)]
  refine wpe h202 (wpe h167 (wpj ?_))
  -- the LABEL, behind w1
  have hsec : ∀ (B1 : Nat) (w1 : cS), sx (q151 F (acn m M)) w w1 → STEP m o M (lcn m M) bt K ent (fun x => w.2 151 (F + x)) (fun x => w1.2 151 (F + x)) B1 → ED1 m o M (lcn m M) bt K (fun x => w1.2 151 (F + x)) t (av (lcn m M) bt (w.2 151 (F + t))) → wp ((fun p8 : Int64 × cS => if ib (nI (F + t)) 1024 then jn (fun p11 : Int64 × cS => some (p11.1, p11.2)) (fun j85 => if 0 ≤ (p8.2.1 124 (F + t)) then if ib (nI (F + t)) 1024 then Option.bind (d_204 n (nI (F + t)) sb p8.2) (fun v13 => Option.bind (d_200 n (nI F) (p8.2.1 124 (F + t)) v13 p8.2) (fun r14 => j85 ((p8.1 ||| r14.1), r14.2))) else none else j85 (p8.1, p8.2)) else none) (lN B1, w1)) (fun r => ∃ B, r.1 = lN B ∧ sx (q151 F (acn m M)) w r.2 ∧ STEP m o M (lcn m M) bt K ent (fun x => w.2 151 (F + x)) (fun x => r.2.2 151 (F + x)) B ∧ ED1 m o M (lcn m M) bt K (fun x => r.2.2 151 (F + x)) t (av (lcn m M) bt (w.2 151 (F + t))) ∧ ED2 m o M (lcn m M) bt K (fun x => r.2.2 151 (F + x)) t (av (lcn m M) bt (w.2 151 (F + t)))) := by
    intro B1 w1 s1 st1 ed1
    have f124 : w1.1 124 (F + t) = m.1 216 (40 * M + t) := (s1.1 124 _ (decide_eq_false (by omega))).trans h124
    by_cases hl : opn m (40 * M + t) = 27 ∨ opn m (40 * M + t) = 28 ∨ opn m (40 * M + t) = 29
    · obtain ⟨t', l1, l2, -⟩ := hlab.1 hl
      have h21 : opn m (40 * M + t) ≠ 21 := by omega
      obtain ⟨hw1, hw2⟩ := hbh h21
      obtain ⟨lb1, lb2⟩ := RCH_lb hX.2.2.1 hM ht r1 l2 l1
      obtain ⟨hFC1, hTM1⟩ := FC_sx hFw s1 nC_151 (fun i => decide_eq_false (by omega)) (fun i => decide_eq_false (by omega)) (fun i => decide_eq_false (by omega)) (decide_eq_false (by omega))
      have hfa1 : fa w1 M = F := (FC_fa s1 nC_151).trans hfa
      have h204 := e204 (n := n) hFC1 hM ht r1 hw1 (a := F + t) (by rw [hfa1])
      obtain ⟨q1, q2⟩ := lbS_ok (bt := bt) hX ht r1 h21 hw1 r2 hsb.symm hw2
      have hn40 := (FX_L hX).2.2.1
      obtain ⟨B2, y1, y2, y3, y4⟩ := brg (n := n) (F := F) (j := t') (s := lbS m o (40 * M + t) sb) (T := trL m o K (40 * M + t)) (i := t) hn hX hFC1 hF hbt st1.1 st1.2.1 ht (av (lcn m M) bt (w.2 151 (F + t))) hfok hfY l1 lb1 (by rw [lb2]; exact q1) (fun x hx => q2 x (by rw [← lb2]; exact hx)) (fun g hg hfg => by rw [lb2]; exact (FX_tr hX ht r1 hfok hg hfg).2.2.2) (fun g hg => by rw [lb2]; exact (FX_ok hX ht r1 hg).2) (fun Y hY hC g hg => by
        obtain ⟨h, h1, h2⟩ := (hC.2 t g ht hg).2 t' l2 l1
        exact ⟨h, h1, by rw [lb2]; exact h2⟩)
      dsimp only
      refine wpt (by simp (disch := first | omega | decide) only [↓neg1, nlit, rI, rL, rI2, rL1, nI_add, pk_mul, sbT, dvT, nmd, ixT, ↓ibT, ltT, ltF, leT, leF, eqT, eqF, nM_ltT, nM_ltF, nM_leT, nM_leF, nM_eqF, nM_eqF', nbT0, nbT1, oI_s, oI_n, natF, natT, nltT, nltF, nleT, nleF, ↓reduceIte, lgc, not_true_eq_false, not_false_eq_true, or_false, false_or, or_true, true_or, and_true, true_and, and_false, false_and, ne_eq, eq_self, or_self, and_self]) (wpj (wpt (by rw [f124, l2]; exact nI_pos' (by omega)) (wpt (by simp (disch := first | omega | decide) only [↓neg1, nlit, rI, rL, rI2, rL1, nI_add, pk_mul, sbT, dvT, nmd, ixT, ↓ibT, ltT, ltF, leT, leF, eqT, eqF, nM_ltT, nM_ltF, nM_leT, nM_leF, nM_eqF, nM_eqF', nbT0, nbT1, oI_s, oI_n, natF, natT, nltT, nltF, nleT, nleF, ↓reduceIte, lgc, not_true_eq_false, not_false_eq_true, or_false, false_or, or_true, true_or, and_true, true_and, and_false, false_and, ne_eq, eq_self, or_self, and_self]) (wpe h204 ?_))))
      rw [f124, l2]
      refine wpe y1 ?_
      refine ⟨B1 ||| B2, ?_, sx_trans s1 (sx_pL sx_rfl (decide_eq_true (by omega))), STEP_tr hL hbt hG st1 y2, fun hg => ?_, fun t2 ht2 ht3 => ?_⟩
      · exact lN_or _ _ (Nat.lt_of_lt_of_le st1.2.2.2.2.2.1 (by decide)) (Nat.lt_of_lt_of_le y2.2.2.2.2.2.1 (by decide))
      · obtain ⟨n1, n2, n3⟩ := RCH_nx hX.2.2.1 hM ht r1 hg
        obtain ⟨e1, e2⟩ := ed1 hg
        obtain ⟨d1, d2⟩ := y2.2.2.1 _ n1 e1
        have o1 := (GD_ok st1.1 hbt n1 e1).2.2
        have o2 := (GD_ok y2.1 hbt n1 d1).2.2
        rw [n3] at d2 o1 o2
        exact ⟨d1, fun s hs => LA_tr hL ((FX_ok hX ht r1 hfok).1 s hs) (o1 s hs) (o2 s hs) (e2 s hs) (d2 s hs)⟩
      · have : t2 = t' := by
          rw [l2] at ht2
          exact ((nI_eq (by omega) (by omega)).mp ht2).symm
        rw [this]
        rw [lb2] at y4
        exact ⟨y3, y4⟩
    · have l2 := hlab.2 ⟨fun z => hl (Or.inl z), fun z => hl (Or.inr (Or.inl z)), fun z => hl (Or.inr (Or.inr z))⟩
      dsimp only
      refine wpt (by simp (disch := first | omega | decide) only [↓neg1, nlit, rI, rL, rI2, rL1, nI_add, pk_mul, sbT, dvT, nmd, ixT, ↓ibT, ltT, ltF, leT, leF, eqT, eqF, nM_ltT, nM_ltF, nM_leT, nM_leF, nM_eqF, nM_eqF', nbT0, nbT1, oI_s, oI_n, natF, natT, nltT, nltF, nleT, nleF, ↓reduceIte, lgc, not_true_eq_false, not_false_eq_true, or_false, false_or, or_true, true_or, and_true, true_and, and_false, false_and, ne_eq, eq_self, or_self, and_self]) (wpj (wpf (by rw [f124, l2]; decide) ?_))
      refine ⟨B1, rfl, s1, st1, ed1, fun t2 ht2 ht3 => ?_⟩
      rw [l2, nM_eqF' (by have := (FX_L hX).2.2.1; omega)] at ht2
      exact ht2.elim
  by_cases hg : opn m (40 * M + t) ≠ 21 ∧ opn m (40 * M + t) ≠ 27
  · rw [if_pos hg]
    refine wpf (by simp (disch := first | omega | decide) only [↓neg1, nlit, rI, rL, rI2, rL1, nI_add, pk_mul, sbT, dvT, nmd, ixT, ↓ibT, ltT, ltF, leT, leF, eqT, eqF, nM_ltT, nM_ltF, nM_leT, nM_leF, nM_eqF, nM_eqF', nbT0, nbT1, oI_s, oI_n, natF, natT, nltT, nltF, nleT, nleF, ↓reduceIte, lgc, not_true_eq_false, not_false_eq_true, or_false, false_or, or_true, true_or, and_true, true_and, and_false, false_and, ne_eq, eq_self, or_self, and_self]) ?_
    obtain ⟨n1, n2, n3⟩ := RCH_nx hX.2.2.1 hM ht r1 hg
    obtain ⟨hw1, hw2⟩ := hbh hg.1
    obtain ⟨B1, y1, y2, y3, y4⟩ := brg (n := n) (F := F) (j := t + 1) (s := sb) (T := trN m o K (40 * M + t)) (i := t) hn hX hFw hF hbt hG hLS ht (av (lcn m M) bt (w.2 151 (F + t))) hfok hfY n1 n2 (by rw [n3]; exact hw1) (fun x hx => hw2 x (by rw [← n3]; exact hx)) (fun g hg' hfg => by rw [n3]; exact (FX_tr hX ht r1 hfok hg' hfg).2.1) (fun g hg' => by rw [n3]; exact (FX_ok hX ht r1 hg').1) (fun Y hY hC g hg' => by
      obtain ⟨h, h1, h2⟩ := (hC.2 t g ht hg').1 hg
      exact ⟨h, h1, by rw [n3]; exact h2⟩)
    rw [nI_1]
    refine wpe y1 ?_
    refine hsec B1 _ (sx_pL sx_rfl (decide_eq_true (by omega))) y2 (fun _ => ?_)
    rw [n3] at y4
    exact ⟨y3, y4⟩
  · rw [if_neg hg]
    refine wpt rfl ?_
    exact hsec 0 w sx_rfl (STEP_rfl hL hbt hG hLS) (fun z => absurd z hg)
/-- the STATE ahead of ACT 0 -/
def entV (m : cS) (o M : Nat) (K : Nat → Nat) (s : Nat) : Nat := if s < pM m M then K (100 * (M / 8) + 20 + 10 * (M % 8) + 1 + s) else ix (m.1 188 o)
def entK (m : cS) (o M : Nat) (K : Nat → Nat) : Nat → Int64
  | 0 => 0
  | k + 1 => wn (entK m o M K k) k (entV m o M K k)
theorem isMt_8 {c m : cS} {M : Nat} (hC : CCS c m) (hM : isMt m M) : M = 8 * (M / 8) + M % 8 ∧ M % 8 < 8 ∧ M < 96 ∧ c.1 116 M = nI (pM m M) ∧ m.1 207 M = nI (pM m M) ∧ pM m M ≤ 4 := by
  have h1 := isMt_lt hC hM
  obtain ⟨g1, g2, g3⟩ := hC.1.2.2.2.2.2 _ _ hM.1 hM.2
  rw [show 8 * (M / 8) + M % 8 = M by omega] at g1 g2 g3
  exact ⟨by omega, by omega, h1, g2, g3, g1⟩
theorem entV_lt {c m : cS} {o M s : Nat} {K : Nat → Nat} (hX : FX c m o M K) : entV m o M K s < eln m o := by
  unfold entV
  by_cases h : s < pM m M
  · rw [if_pos h]
    have h8 := isMt_8 hX.2.1 hX.2.2.2.1
    have hp := place_p hX.2.1 hX.2.2.2.1.1 hX.2.2.2.1.2 (r := s) (by rw [show 8 * (M / 8) + M % 8 = M by omega]; exact h)
    exact hX.2.2.2.2.2 _ _ hp (by omega)
  · rw [if_neg h]
    exact (FX_L hX).2.2.2.2
theorem nbl_ent {c m : cS} {o M j : Nat} {K : Nat → Nat} (hX : FX c m o M K) (hj : j < 16) : ∀ k, k ≤ 8 → nbl (entK m o M K k) j = if j < k then entV m o M K j else 0
  | 0, _ => by
    rw [if_neg (by omega)]
    have : ∀ q : Fin 16, nbl 0 q.1 = 0 := by decide +kernel
    exact this ⟨j, hj⟩
  | k + 1, hk => by
    have h1 := entV_lt (s := k) hX
    have h2 := (FX_L hX).1.1.2
    unfold entK
    rw [nbl_wn (by omega) (by omega) hj, nbl_ent hX hj k (by omega)]
    by_cases e : j = k
    · rw [if_pos e, if_pos (by omega), e]
    · rw [if_neg e]
      by_cases e2 : j < k
      · rw [if_pos e2, if_pos (by omega)]
      · rw [if_neg e2, if_neg (by omega)]
theorem e198 {n M o : Nat} {c m u : cS} (hn : 1000 ≤ n) (h : FC c m u o) (hM : isMt m M) : d_198 n (nI M) c = some (entK m o M (fun p => TM m c p o) (lcn m M)) := by
  have hX := FC_X h hM
  obtain ⟨q1, q2, q3, q4, q5, q6⟩ := isMt_8 hX.2.1 hM
  have hmt := (h.1.2.2.2.1 M hM).1
  have hl := hmt.2.2.2.1
  have h117 := hmt.2.2.2.2.2.1
  have h150 := h.2.2.2.2.1
  have ho := h.2.2.2.2.2
  have ho4 := h.1.1.1.1
  have hbot := (bot_lt h.1.1.1 ho).2.2
  have hel := OOS_el h.1.1.1 ho
  have hcc := (CCS_p hX.2.1).1
  have hM1 := hM.1
  unfold d_198
  refine bwo (fun k => (entK m o M (fun p => TM m c p o) k, nI k)) (entK m o M (fun p => TM m c p o) (lcn m M)) (cnt := lcn m M) (by omega) rfl ?_ (fun k hk => ?_) rfl
  · simp (disch := first | omega | decide) only [↓neg1, nlit, rI, rL, rI2, rL1, nI_add, pk_mul, sbT, dvT, nmd, ixT, ↓ibT, ltT, ltF, leT, leF, eqT, eqF, nM_ltT, nM_ltF, nM_leT, nM_leF, nM_eqF, nM_eqF', nbT0, nbT1, oI_s, oI_n, natF, natT, nltT, nltF, nleT, nleF, ↓reduceIte, lgc, not_true_eq_false, not_false_eq_true, or_false, false_or, or_true, true_or, and_true, true_and, and_false, false_and, ne_eq, eq_self, or_self, and_self, obs, ↓jn, ↓lt, ↓reduceIte, decide_true, decide_false, Bool.false_eq_true, Bool.and_true, Bool.and_false, Bool.true_and, Bool.false_and, Bool.or_false, Bool.false_or, Bool.or_true, Bool.true_or, h117]
  · have hv := entV_lt (s := k) hX
    have h356 : d_356 n (entK m o M (fun p => TM m c p o) k) (nI k) (nI (entV m o M (fun p => TM m c p o) k)) = some (wn (entK m o M (fun p => TM m c p o) k) k (entV m o M (fun p => TM m c p o) k)) := e356 (by omega) (by omega)
    by_cases hp : k < pM m M
    · have hpl := place_p hX.2.1 hM.1 hM.2 (r := k) (by rw [← q1]; exact hp)
      obtain ⟨k1, -⟩ := FC_K (n := n) h hpl (by omega)
      have h156 : d_156 n (nI M) = some (nI (100 * (M / 8) + 20 + 10 * (M % 8))) := by
        have := e156 (n := n) (k := M / 8) (j := M % 8) (by omega) (by omega)
        rwa [show M / 8 * 8 + M % 8 = M by omega] at this
      have hev : entV m o M (fun p => TM m c p o) k = TM m c (100 * (M / 8) + 20 + 10 * (M % 8) + 1 + k) o := if_pos hp
      rw [hev] at h356
      simp (disch := first | omega | decide) only [↓neg1, nlit, rI, rL, rI2, rL1, nI_add, pk_mul, sbT, dvT, nmd, ixT, ↓ibT, ltT, ltF, leT, leF, eqT, eqF, nM_ltT, nM_ltF, nM_leT, nM_leF, nM_eqF, nM_eqF', nbT0, nbT1, oI_s, oI_n, natF, natT, nltT, nltF, nleT, nleF, ↓reduceIte, lgc, not_true_eq_false, not_false_eq_true, or_false, false_or, or_true, true_or, and_true, true_and, and_false, false_and, ne_eq, eq_self, or_self, and_self, obs, ↓jn, ↓lt, ↓reduceIte, decide_true, decide_false, Bool.false_eq_true, Bool.and_true, Bool.and_false, Bool.true_and, Bool.false_and, Bool.or_false, Bool.false_or, Bool.or_true, Bool.true_or, h117, h150, q4, h156, k1, h356, entK, hev]
    · have hev : entV m o M (fun p => TM m c p o) k = ix (m.1 188 o) := if_neg hp
      rw [hev] at h356
      simp (disch := first | omega | decide) only [↓neg1, nlit, rI, rL, rI2, rL1, nI_add, pk_mul, sbT, dvT, nmd, ixT, ↓ibT, ltT, ltF, leT, leF, eqT, eqF, nM_ltT, nM_ltF, nM_leT, nM_leF, nM_eqF, nM_eqF', nbT0, nbT1, oI_s, oI_n, natF, natT, nltT, nltF, nleT, nleF, ↓reduceIte, lgc, not_true_eq_false, not_false_eq_true, or_false, false_or, or_true, true_or, and_true, true_and, and_false, false_and, ne_eq, eq_self, or_self, and_self, obs, ↓jn, ↓lt, ↓reduceIte, decide_true, decide_false, Bool.false_eq_true, Bool.and_true, Bool.and_false, Bool.true_and, Bool.false_and, Bool.or_false, Bool.false_or, Bool.or_true, Bool.true_or, h117, h150, q4, hbot, h356, entK, hev]
theorem e197 {n M o : Nat} {c m u : cS} (hn : 1100000 ≤ n) (h : FC c m u o) (hM : isMt m M) : wp (d_197 n (nI M) c) (fun w => sx (q151 (fa c M) (acn m M)) c w ∧ SOL m o M (fun p => TM m c p o) (entV m o M (fun p => TM m c p o)) (CX (lcn m M) (ix (m.1 188 o)) (fun x => w.2 151 (fa c M + x))) ∧ GD m o M (lcn m M) (fun x => w.2 151 (fa c M + x))) := by
  have hX := FC_X h hM
  have hL := (FX_L hX).1
  have hbt := (FX_L hX).2.2.2.2
  have hl := (FX_L hX).2.1
  have hn40 := (FX_L hX).2.2.1
  have hn1 := (FX_L hX).2.2.2.1
  obtain ⟨q1, q2, q3, q4, q5, q6⟩ := isMt_8 hX.2.1 hM
  have hmt := (h.1.2.2.2.1 M hM).1
  obtain ⟨-, -, h120, -, -, -, -, h119, hF⟩ := id hmt
  have hF1024 := hF
  unfold d_197
  generalize hFe : fa c M = F at *
  generalize hKe : (fun p => TM m c p o) = K at *
  have hKp : ∀ p, TM m c p o = K p := fun p => by rw [← hKe]
  (try dsimp only); repeat (first | with_reducible refine wpl ?_ | with_reducible refine wpj ?_ | with_reducible refine wpSl ?_ | with_reducible refine wpSr ?_ | with_reducible refine wpS ?_ | ((with_reducible refine wpt ?_ ?_); · simp (disch := first | omega | decide) only [↓neg1, nlit, rI, rL, rI2, rL1, nI_add, pk_mul, sbT, dvT, nmd, ixT, ↓ibT, ltT, ltF, leT, leF, eqT, eqF, nM_ltT, nM_ltF, nM_leT, nM_leF, nM_eqF, nM_eqF', nbT0, nbT1, oI_s, oI_n, natF, natT, nltT, nltF, nleT, nleF, ↓reduceIte, lgc, not_true_eq_false, not_false_eq_true, or_false, false_or, or_true, true_or, and_true, true_and, and_false, false_and, ne_eq, eq_self, or_self, and_self]; done) | ((with_reducible refine wpf ?_ ?_); · simp (disch := first | omega | decide) only [↓neg1, nlit, rI, rL, rI2, rL1, nI_add, pk_mul, sbT, dvT, nmd, ixT, ↓ibT, ltT, ltF, leT, leF, eqT, eqF, nM_ltT, nM_ltF, nM_leT, nM_leF, nM_eqF, nM_eqF', nbT0, nbT1, oI_s, oI_n, natF, natT, nltT, nltF, nleT, nleF, ↓reduceIte, lgc, not_true_eq_false, not_false_eq_true, or_false, false_or, or_true, true_or, and_true, true_and, and_false, false_and, ne_eq, eq_self, or_self, and_self]; done))
  rw [ix_n (by omega), h119, h120, nI_add]
  refine wpc (e152 (by omega) (by omega) (by omega) (by omega)) (fun w hw => ?_)
  obtain ⟨w1, w2, w3⟩ := hw
  have sw : sx (q151 F (acn m M)) c w := by
    refine ⟨fun a i e => by rw [w3], fun a i e => ?_⟩
    by_cases ha : a = 151
    · subst ha
      rw [w1, if_neg (fun z => of_decide_eq_false e ⟨rfl, z.1, z.2⟩)]
    · rw [w2 a ha]
  have hFCs : ∀ x, sx (q151 F (acn m M)) c x → FC x m u o ∧ ∀ p, TM m x p o = K p := by
    intro x hx
    obtain ⟨g1, g2⟩ := FC_sx h hx nC_151 (fun i => decide_eq_false (by omega)) (fun i => decide_eq_false (by omega)) (fun i => decide_eq_false (by omega)) (decide_eq_false (by omega))
    exact ⟨g1, fun p => (g2 p).trans (hKp p)⟩
  obtain ⟨hFw, hTw⟩ := hFCs w sw
  have h198 := e198 (n := n) (by omega) hFw hM
  rw [show (fun p => TM m w p o) = K from funext hTw] at h198
  refine wpe h198 ?_
  refine wpt (by simp (disch := first | omega | decide) only [↓neg1, nlit, rI, rL, rI2, rL1, nI_add, pk_mul, sbT, dvT, nmd, ixT, ↓ibT, ltT, ltF, leT, leF, eqT, eqF, nM_ltT, nM_ltF, nM_leT, nM_leF, nM_eqF, nM_eqF', nbT0, nbT1, oI_s, oI_n, natF, natT, nltT, nltF, nleT, nleF, ↓reduceIte, lgc, not_true_eq_false, not_false_eq_true, or_false, false_or, or_true, true_or, and_true, true_and, and_false, false_and, ne_eq, eq_self, or_self, and_self]) (wpl ?_)
  rw [ix_n (by omega)]
  have hent : okF (eln m o) 8 (entV m o M K) := fun s hs => entV_lt hX
  have hr0 := RCH_0 hX.2.2.1 hM
  have hWF0 : WFs (eln m o) (lcn m M) 0 (entK m o M K (lcn m M)) := by
    intro j hj
    rw [nbl_ent hX hj _ hl]
    by_cases e : j < lcn m M
    · rw [if_pos (Or.inl e), if_pos e]
      exact entV_lt hX
    · rw [if_neg (by omega), if_neg e]
  have hav0 : ∀ s, s < 8 → av (lcn m M) (ix (m.1 188 o)) (entK m o M K (lcn m M)) s = entV m o M K s := by
    intro s hs
    unfold av
    by_cases e : lcn m M ≤ s ∧ s < 8
    · rw [if_pos e]
      unfold entV
      rw [if_neg (by have := hmt.2.2.2.1.2; omega)]
    · rw [if_neg e, nbl_ent hX (by omega) _ hl, if_pos (by omega)]
  have hS0 : ∀ x, x < acn m M → (pL w 151 F (entK m o M K (lcn m M))).2 151 (F + x) = if x = 0 then entK m o M K (lcn m M) else -1 := by
    intro x hx
    rw [rL]
    by_cases e : x = 0
    · rw [if_pos ⟨rfl, by omega⟩, if_pos e]
    · rw [if_neg (by omega), if_neg e, w1, if_pos (by omega)]
  have s0 : sx (q151 F (acn m M)) c (pL w 151 F (entK m o M K (lcn m M))) := sx_pL sw (decide_eq_true (by omega))
  have hne0 := WF_ne hWF0 hL.1
  have hFLI0 : FLI m o M (lcn m M) (ix (m.1 188 o)) K (entV m o M K) (fun x => (pL w 151 F (entK m o M K (lcn m M))).2 151 (F + x)) 1 := by
    have hz : ∀ i, i < acn m M → (pL w 151 F (entK m o M K (lcn m M))).2 151 (F + i) ≠ -1 → i = 0 := by
      intro i hi hne
      rw [hS0 i hi] at hne
      by_cases e : i = 0
      · exact e
      · rw [if_neg e] at hne
        exact absurd rfl hne
    have e0 : (pL w 151 F (entK m o M K (lcn m M))).2 151 (F + 0) = entK m o M K (lcn m M) := (hS0 0 (by omega)).trans (if_pos rfl)
    refine ⟨fun i hi => ?_, fun Y hY hC i hi hne => ?_, ⟨?_, ?_⟩, fun i hi hne hb => ?_, fun i hb => ?_⟩
    · show (pL w 151 F _).2 151 (F + i) = -1 ∨ _
      by_cases e : i = 0
      · subst e
        refine Or.inr ⟨hr0.1, ?_⟩
        show WFs _ _ _ ((pL w 151 F _).2 151 (F + 0))
        rw [e0, hr0.2]
        exact hWF0
      · exact Or.inl ((hS0 i hi).trans (if_neg e))
    · have := hz i hi hne
      subst this
      obtain ⟨g, g1, g2⟩ := hC.1
      refine ⟨g, g1, ?_⟩
      show lfF m o _ (av _ _ ((pL w 151 F _).2 151 (F + 0))) g
      rw [e0, hr0.2]
      intro s hs
      rw [hav0 s hs]
      exact g2 s hs
    · show (pL w 151 F _).2 151 (F + 0) ≠ -1
      rw [e0]
      exact hne0
    · show lfF m o 8 _ (av _ _ ((pL w 151 F _).2 151 (F + 0)))
      rw [e0]
      intro s hs
      rw [hav0 s hs]
      exact LA_refl hL (hent s hs)
    · have := hz i hi hne
      subst this
      exact absurd hb (by decide)
    · have : i = 0 := by
        rw [show (1 : Nat) = 2 ^ 0 from rfl, Nat.testBit_two_pow] at hb
        exact (of_decide_eq_true hb).symm
      subst this
      exact ⟨by omega, fun z => hne0 (e0.symm.trans z)⟩
  generalize hw0 : pL w 151 F (entK m o M K (lcn m M)) = x0 at *
  have hpotle : ∀ s, pot m o s ≤ 200 := by
    intro s
    unfold pot
    split <;> omega
  have htot0 : totP m o M (fun x => x0.2 151 (F + x)) ≤ 200 * acn m M := sumP_le (fun i => hpotle _) _
  refine wpc (K' := fun x : cS => sx (q151 F (acn m M)) c x ∧ FLI m o M (lcn m M) (ix (m.1 188 o)) K (entV m o M K) (fun y => x.2 151 (F + y)) 0) (whl_run (fun μ (st : Int64 × Int32 × cS) => ∃ N k, st.1 = lN N ∧ N < 2 ^ 40 ∧ st.2.1 = nI k ∧ μ = 2 * totP m o M (fun y => st.2.2.2 151 (F + y)) + cb N ∧ k + μ ≤ 20000 ∧ sx (q151 F (acn m M)) c st.2.2 ∧ FLI m o M (lcn m M) (ix (m.1 188 o)) K (entV m o M K) (fun y => st.2.2.2 151 (F + y)) N) ?_ n (2 * totP m o M (fun y => x0.2 151 (F + y)) + 1) _ (by omega) ⟨1, 0, rfl, by decide, rfl, by rw [show cb 1 = 1 by decide +kernel], by omega, s0, hFLI0⟩) ?_
  · rintro μ ⟨a, b, x⟩ ⟨N, k, g1, g2, g3, g4, g5, g6, g7⟩
    dsimp only at g1 g3 g4 g6 g7
    subst g1 g3
    dsimp only
    refine wpf (show ¬ (1000000 : Int32) ≤ nI k from nI_ge (b := 1000000) (by omega) (by omega)) ?_
    by_cases hN : N = 0
    · subst hN
      refine wpt (show lg_cmp (lN 0) 0 = 0 by decide) ?_
      exact ⟨g6, g7⟩
    · refine wpf ?_ ?_
      · show ¬ lg_cmp (lN N) 0 = nI 0
        rw [lgc]
        exact lNne (by omega) (by omega)
      obtain ⟨t, ht⟩ := low_ex hN
      have ht40 := low_lt ht g2
      obtain ⟨g8, g9⟩ := g7.2.2.2.2 t ht.1
      obtain ⟨hFx, hTx⟩ := hFCs x g6
      have hfx : fa x M = F := (FC_fa g6 nC_151).trans hFe
      refine wpe (e483 ht g2) ?_
      refine wpl ?_
      refine wpc (e199 (by omega) hX hFx hTx hfx hF1024 hbt g7.1 g7.2.1 g8 g9) (fun r hr => ?_)
      obtain ⟨B, b1, b2, b3, b4, b5⟩ := hr
      have hcut : lN N &&& (lN N - 1) = lN (N &&& (N - 1)) := by
        rw [show lN N - 1 = lN (N - 1) from lN_sub (b := 1) (by omega), lN_and _ _ (by omega) (by omega)]
      have hB := b3.2.2.2.2.2.1
      have hcut40 : N &&& (N - 1) < 2 ^ 40 := Nat.lt_of_le_of_lt Nat.and_le_left g2
      have hcb := cb_cut ht ht40
      have hor := cb_or (N &&& (N - 1)) B
      have htp := b3.2.2.2.2.2.2
      refine wpl (wpl ⟨2 * totP m o M (fun y => r.2.2 151 (F + y)) + cb ((N &&& (N - 1)) ||| B), by omega, (N &&& (N - 1)) ||| B, k + 1, ?_, Nat.or_lt_two_pow hcut40 hB, nI_1 _, rfl, by omega, sx_trans g6 b2, FLI_step hX hbt hent g7 ht b3 b4 b5⟩)
      show (lN N &&& (lN N - 1)) ||| r.1 = _
      rw [hcut, b1]
      exact lN_or _ _ (by omega) (by omega)
  · rintro x ⟨j1, j2⟩
    exact ⟨j1, FLI_end hbt j2, j2.1⟩
