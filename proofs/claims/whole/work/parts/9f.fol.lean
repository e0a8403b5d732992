/-! FLOW: the class follows all METHODS, the whole -/
def qFo (a i : Nat) : Bool := decide ((a = 150 ∧ (i = 3 ∨ i = 6)) ∨ a = 151 ∨ a = 152)
theorem nC_Fo : nC qFo := ⟨fun a i h1 h2 h3 => decide_eq_false (by omega), fun i h => decide_eq_false (by omega)⟩
/-- what the class has found in following -/
def FOL (c m : cS) (o : Nat) (w : cS) : Prop := w.1 150 3 = nI o ∧ (∀ M, isMt m M → SOL m o M (fun p => TM m c p o) (entV m o M (fun p => TM m c p o)) (XC m o w M) ∧ GD m o M (lcn m M) (fun x => w.2 151 (fa w M + x))) ∧ ERC w (erM m o (fun p => TM m c p o) (XC m o w) 96)
theorem FC_so {c d m u : cS} {o : Nat} {r : Nat → Nat → Bool} (h1 : PG c m) (h2 : TLS c m) (h3 : c.1 146 8 = nI 0) (h4 : FD m c u) (h5 : o < ocn m) (hd : sx r c d) (hr : nC r) (r1 : ∀ i, r 146 i = false) (r2 : ∀ i, r 147 i = false) (r3 : ∀ i, r 148 i = false) (ho : d.1 150 3 = nI o) : FC d m u o ∧ ∀ p, TM m d p o = TM m c p o := by
  have hf : ∀ p o, fdv d p o = fdv c p o := fun p o => congrArg ix (hd.1 148 _ (r3 _))
  refine ⟨⟨PG_CA (CA_sx hd hr) h1, ?_, ?_, ?_, ho, h5⟩, fun p => by unfold TM; rw [hf]⟩
  · refine ⟨by rw [hd.1 146 8 (r1 8)]; exact h2.1, fun z p s o hp hs ho => ?_⟩
    rw [hd.1 146 8 (r1 8)] at z
    rw [hd.1 147 _ (r2 _)]
    exact h2.2 z p s o hp hs ho
  · rw [hd.1 146 8 (r1 8)]
    exact h3
  · intro p s o hp hs ho
    rw [hf, hd.1 148 _ (r3 _)]
    exact h4 p s o hp hs ho
theorem CX_cg {l bt i : Nat} {S S' : Nat → Int64} (h : S' i = S i) : CX l bt S' i = CX l bt S i := by
  unfold CX
  rw [h]
theorem e196 {n o : Nat} {c m u : cS} (hn : 1100000 ≤ n) (h1 : PG c m) (h2 : TLS c m) (h3 : c.1 146 8 = nI 0) (h4 : FD m c u) (h5 : o < ocn m) (hB : WB m) : wp (d_196 n (nI o) c) (fun w => sx qFo c w ∧ FOL c m o w) := by
  have hC := h1.1.2.2.1
  have hT := h1.2.2
  have h12 := (CCS_p hC).1
  have hFC : ∀ x, sx qFo c x → x.1 150 3 = nI o → FC x m u o ∧ (∀ p, TM m x p o = TM m c p o) ∧ ∀ M, fa x M = fa c M := by
    intro x hx ho
    obtain ⟨g1, g2⟩ := FC_so h1 h2 h3 h4 h5 hx nC_Fo (fun i => decide_eq_false (by omega)) (fun i => decide_eq_false (by omega)) (fun i => decide_eq_false (by omega)) ho
    exact ⟨g1, g2, fun M => FC_fa hx nC_Fo⟩
  unfold d_196
  refine wpl (wpl ?_)
  have s0 : sx qFo c (pI (pI c 150 3 (nI o)) 150 6 0) := sx_pI (sx_pI sx_rfl (decide_eq_true (by omega))) (decide_eq_true (by omega))
  have o0 : (pI (pI c 150 3 (nI o)) 150 6 0).1 150 3 = nI o := by rw [rI, if_neg (by omega), rI, if_pos ⟨rfl, rfl⟩]
  refine wpc (K' := fun w : cS => sx qFo c w ∧ FOL c m o w) (whl_cnt (fun M (st : Int32 × cS) => st.1 = nI M ∧ sx qFo c st.2 ∧ st.2.1 150 3 = nI o ∧ (∀ N, N < M → isMt m N → SOL m o N (fun p => TM m c p o) (entV m o N (fun p => TM m c p o)) (XC m o st.2 N) ∧ GD m o N (lcn m N) (fun x => st.2.2 151 (fa st.2 N + x))) ∧ ERC st.2 (erM m o (fun p => TM m c p o) (XC m o st.2) M)) (8 * ccn m) ?_ ?_ (by omega) ⟨rfl, s0, o0, fun N hN => by omega, ?_⟩) (fun w hw => hw)
  · rintro M ⟨a, x⟩ hM ⟨g1, g2, g3, g4, g5⟩
    dsimp only at g1 g2 g3 g4 g5
    subst g1
    obtain ⟨f1, f2, f3⟩ := hFC x g2 g3
    have p10 : x.1 7 10 = nI (ccn m) := f1.1.1.2.2.1.1.2.1
    have h158 : d_158 n x = some (nI (8 * ccn m)) := by
      unfold d_158
      rw [p10, show nI (ccn m) * 8 = nI (ccn m * 8) from pk_mul _ 8, Nat.mul_comm]
    refine wpe h158 (wpf (by dsimp only; simp (disch := first | omega | decide) only [↓neg1, nlit, rI, rL, rI2, rL1, nI_add, pk_mul, sbT, dvT, nmd, ixT, ↓ibT, ltT, ltF, leT, leF, eqT, eqF, nM_ltT, nM_ltF, nM_leT, nM_leF, nM_eqF, nM_eqF', nbT0, nbT1, oI_s, oI_n, natF, natT, nltT, nltF, nleT, nleF, ↓reduceIte, lgc, not_true_eq_false, not_false_eq_true, or_false, false_or, or_true, true_or, and_true, true_and, and_false, false_and, ne_eq, eq_self, or_self, and_self]) (wpe (e157 f1.1.1.2.2.1 hM) (wpj ?_)))
    by_cases e : mtb m M = true
    · have hMt := mtb_t.mp e
      rw [if_pos e]
      refine wpf (by decide) ?_
      refine wpc (e197 (by omega) f1 hMt) (fun w1 hw1 => ?_)
      obtain ⟨a1, a2, a3⟩ := hw1
      have s1 : sx qFo c w1 := sx_trans g2 (sx_wide a1 (fun a i z => by
        have := of_decide_eq_false z
        exact decide_eq_false (by omega)))
      have o1 : w1.1 150 3 = nI o := (a1.1 150 3 (decide_eq_false (by omega))).trans g3
      obtain ⟨k1, k2, k3⟩ := hFC w1 s1 o1
      have hfx : fa x M = fa w1 M := (f3 M).trans (k3 M).symm
      rw [show (fun p => TM m x p o) = (fun p => TM m c p o) from funext f2, hfx] at a2
      rw [hfx] at a3
      have hot : ∀ N i, N < M → isMt m N → i < acn m N → w1.2 151 (fa w1 N + i) = x.2 151 (fa x N + i) := by
        intro N i hN hNt hi
        have hd := hT.2.2 N M hNt hMt hN
        rw [show fa w1 N = fa x N from (k3 N).trans (f3 N).symm]
        refine a1.2 151 _ (decide_eq_false ?_)
        rw [f3 N, f3 M]
        omega
      have hXo : ∀ N i, N < M → isMt m N → i < acn m N → XC m o w1 N i = XC m o x N i := by
        intro N i hN hNt hi
        exact CX_cg (hot N i hN hNt hi)
      have er1 : ERC w1 (erM m o (fun p => TM m c p o) (XC m o w1) M) := by
        rw [erM_cg M hXo]
        exact ⟨(a1.1 150 6 (decide_eq_false (by omega))).trans g5.1, fun j y hy => (a1.1 152 j (decide_eq_false (by omega))).trans (g5.2 j y hy)⟩
      refine wpc (e205 (by omega) k1 hMt hB a3 er1 (erM_len _)) (fun w2 hw2 => ?_)
      obtain ⟨b1, b2⟩ := hw2
      have s2 : sx qFo c w2 := sx_trans s1 (sx_wide b1 (fun a i z => by
        have := of_decide_eq_false z
        exact decide_eq_false (by omega)))
      have o2 : w2.1 150 3 = nI o := (b1.1 150 3 (decide_eq_false (by omega))).trans o1
      obtain ⟨l1, l2, l3⟩ := hFC w2 s2 o2
      have hfw : ∀ N, fa w2 N = fa w1 N := fun N => (l3 N).trans (k3 N).symm
      have hst : ∀ N, (fun x => w2.2 151 (fa w2 N + x)) = (fun x => w1.2 151 (fa w1 N + x)) := fun N => funext fun i => by
        rw [hfw N]
        exact b1.2 151 _ (decide_eq_false (by omega))
      have hXs : XC m o w2 = XC m o w1 := funext fun N => by
        unfold XC
        rw [hst N]
      rw [show (fun p => TM m w1 p o) = (fun p => TM m c p o) from funext k2] at b2
      refine wpl ⟨nI_1 _, s2, o2, fun N hN hNt => ?_, ?_⟩
      · dsimp only
        rw [hXs, hst N]
        by_cases eN : N = M
        · subst eN
          exact ⟨a2, a3⟩
        · obtain ⟨y1, y2⟩ := g4 N (by omega) hNt
          refine ⟨SOL_cg (FC_X k1 hNt) (fun i hi => hXo N i (by omega) hNt hi) y1, fun i hi => ?_⟩
          have := y2 i hi
          dsimp only at this
          rw [← hot N i (by omega) hNt hi] at this
          exact this
      · dsimp only
        rw [hXs]
        show ERC w2 (erM _ _ _ _ M ++ (if mtb m M then _ else _))
        rw [if_pos e]
        exact b2
    · rw [if_neg e]
      refine wpt rfl (wpl ⟨nI_1 _, g2, g3, fun N hN hNt => ?_, ?_⟩)
      · by_cases eN : N = M
        · subst eN
          exact absurd (mtb_t.mpr hNt) e
        · exact g4 N (by omega) hNt
      · show ERC x (erM _ _ _ _ M ++ (if mtb m M then _ else _))
        rw [if_neg e, List.append_nil]
        exact g5
  · rintro ⟨a, x⟩ ⟨g1, g2, g3, g4, g5⟩
    dsimp only at g1 g2 g3 g4 g5
    subst g1
    obtain ⟨f1, f2, f3⟩ := hFC x g2 g3
    have p10 : x.1 7 10 = nI (ccn m) := f1.1.1.2.2.1.1.2.1
    have h158 : d_158 n x = some (nI (8 * ccn m)) := by
      unfold d_158
      rw [p10, show nI (ccn m) * 8 = nI (ccn m * 8) from pk_mul _ 8, Nat.mul_comm]
    refine wpe h158 (wpt (by dsimp only; simp (disch := first | omega | decide) only [↓neg1, nlit, rI, rL, rI2, rL1, nI_add, pk_mul, sbT, dvT, nmd, ixT, ↓ibT, ltT, ltF, leT, leF, eqT, eqF, nM_ltT, nM_ltF, nM_leT, nM_leF, nM_eqF, nM_eqF', nbT0, nbT1, oI_s, oI_n, natF, natT, nltT, nltF, nleT, nleF, ↓reduceIte, lgc, not_true_eq_false, not_false_eq_true, or_false, false_or, or_true, true_or, and_true, true_and, and_false, false_and, ne_eq, eq_self, or_self, and_self]) ⟨g2, g3, fun M hM => g4 M ?_ hM, ?_⟩)
    · have := hM.1
      omega
    · have := erM_end (m := m) (o := o) (K := fun p => TM m c p o) (X := XC m o x) (96 - 8 * ccn m)
      rw [show 8 * ccn m + (96 - 8 * ccn m) = 96 by omega] at this
      rw [this]
      exact g5
  · refine ⟨?_, fun j y hy => ?_⟩
    · rw [rI, if_pos ⟨rfl, rfl⟩]
      rfl
    · cases hy
