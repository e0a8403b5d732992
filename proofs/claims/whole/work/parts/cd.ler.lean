/-! RUN: marks that are left, the reference -/
section LER
variable {n f M i : Nat} {c m u : cS}
def q70 (a i : Nat) : Bool := decide ((a = 174 ∧ 73 ≤ i ∧ i ≤ 79) ∨ a = 232 ∨ a = 233 ∨ (a = 174 ∧ 124 ≤ i ∧ i ≤ 127))
theorem nP_q70 : nP q70 := by
  refine ⟨fun a i h => ?_, fun i h => ?_, fun i h => ?_, fun a i h1 h2 h3 => ?_, fun a i h1 h2 h3 => ?_⟩
  · have := PA_of h
    exact decide_eq_false (by omega)
  · have := PF_of h
    exact decide_eq_false (by omega)
  · exact decide_eq_false (by omega)
  · exact decide_eq_false (by omega)
  · exact decide_eq_false (by omega)
theorem qR_70 {x y : cS} (h : sx qR x y) : sx q70 x y := sx_wide h (fun a i z => by
  have := of_decide_eq_false z
  exact decide_eq_false (by omega))
theorem e422M (hM : M < 96) : d_422 n (nI M) = some (plI M) := by
  have h1 := e422 (n := n) (k := M / 8) (j := M % 8) (by omega) (by omega)
  rw [show 8 * (M / 8) + M % 8 = M by omega] at h1
  exact h1
theorem nI_le1 {a : Nat} (ha : a < 2147483000) : (nI (a + 1) ≤ 1) ↔ a = 0 := by
  constructor
  · intro h
    have := Int32.le_iff_toInt_le.mp h
    rw [nI_toInt (by omega), show (1 : Int32).toInt = 1 by decide] at this
    omega
  · intro h
    subst h
    decide
theorem e469 {z : LS4} (hn : 1000 ≤ n) (hT : TST m c) (hA : AG m u) (hF : FD m c u) (hM : isMt m M) (hi : i < acn m M) (hr : RCH m M i) (hf : f < 12) (h253 : u.1 253 f = nI M) (h254 : u.1 254 f = nI i) (h255 : u.1 255 f = nI (8 + dpn m (40 * M + i))) (hS : ∀ q, q < 16 * (f + 1) → SLq m c u q) (hz : HLr u z) (hz2 : z.1 < 2147482000) : wp (d_469 n (nI f) (nI (40 * M + i)) u) (fun d => HLr d (lfO (lfB m c f M i) (plI M) i (wnt m (40 * M + i)) z (ocn m)) ∧ sx q70 u d) := by
  have hG := hT.1
  have hC := hG.1.2.2.1
  have ho4 := hG.1.1.1
  have hM96 := isMt_lt hC hM
  have hac := MTS_ac hG.2.2 hM hi
  have hR := hac.2.2.2.2.2.2.1
  have hw4 := wnt_le hC hR
  have hn40 := ((hG.2.2.2.1 M hM).1).1.2
  have K1 : ∀ {y : cS}, sx q70 u y → ∀ A j, ¬ ((A = 174 ∧ 73 ≤ j ∧ j ≤ 79) ∨ A = 232 ∨ A = 233 ∨ (A = 174 ∧ 124 ≤ j ∧ j ≤ 127)) → y.1 A j = u.1 A j := fun hy A j z => hy.1 A j (decide_eq_false z)
  unfold d_469
  refine wpjQ (fun p1 : Int32 => (p1 = 0 ↔ z.1 ≠ 0)) ?_ ?_
  rotate_left
  · intro Q' k' hk'
    by_cases e : z.1 = 0
    · exact wpt (by rw [hz.1, e]; rfl) (hk' 1 ⟨fun x => absurd x (by decide), fun x => absurd e x⟩)
    · exact wpf (fun x => e ((nI_eq (by omega) (by decide)).mp (show nI z.1 = nI 0 from hz.1.symm.trans x))) (hk' 0 ⟨fun _ => e, fun _ => rfl⟩)
  intro p1 hp1
  refine wpc (K' := fun d : cS => HLr d (lfO (lfB m c f M i) (plI M) i (wnt m (40 * M + i)) z (ocn m)) ∧ sx q70 u d) (whl_cnt (fun o (st : Int32 × cS) => st.1 = nI o ∧ o ≤ ocn m ∧ HLr st.2 (lfO (lfB m c f M i) (plI M) i (wnt m (40 * M + i)) z o) ∧ sx q70 u st.2) (ocn m) ?_ ?_ (by omega) ⟨rfl, by omega, hz, sx_rfl⟩) (fun d hd => hd)
  · rintro o ⟨o0, w⟩ ho ⟨g1, g2, g3, g4⟩
    dsimp only at g1 g2 g3 g4
    subst g1
    dsimp only
    rw [K1 g4 174 15 (by omega), hA.2.2.1 15 rfl, hG.1.1.2.2.1]
    refine wpf (by simp (disch := first | omega | decide) only [↓neg1, nlit, rI, rL, rI2, rL1, nI_add, pk_mul, sbT, dvT, nmd, ixT, ↓ibT, ltT, ltF, leT, leF, eqT, eqF, nM_ltT, nM_ltF, nM_leT, nM_leF, nM_eqF, nM_eqF', nbT0, nbT1, oI_s, oI_n, natF, natT, nltT, nltF, nleT, nleF, ↓reduceIte, lgc, not_true_eq_false, not_false_eq_true, or_false, false_or, or_true, true_or, and_true, true_and, and_false, false_and, ne_eq, eq_self, or_self, and_self]) ?_
    have hbo := lfO_le (b := lfB m c f M i) (pl := plI M) (i := i) (W := wnt m (40 * M + i)) (z := z) o
    have hmul : wnt m (40 * M + i) * o ≤ 16 := Nat.le_trans (Nat.mul_le_mul hw4 (show o ≤ 4 by omega)) (by omega)
    refine wpc (K' := fun d : cS => HLr d (lfO (lfB m c f M i) (plI M) i (wnt m (40 * M + i)) z (o + 1)) ∧ sx q70 u d) (whl_cnt (fun k (st : Int32 × cS) => st.1 = nI k ∧ HLr st.2 (lfK (lfB m c f M i) (plI M) i o (lfO (lfB m c f M i) (plI M) i (wnt m (40 * M + i)) z o) k) ∧ sx q70 u st.2) (wnt m (40 * M + i)) ?_ ?_ (by omega) ⟨rfl, g3, g4⟩) (fun d hd => wpl ⟨nI_1 _, by omega, hd.1, hd.2⟩)
    · rintro k ⟨k0, y⟩ hk ⟨q1, q2, q3⟩
      dsimp only at q1 q2 q3
      subst q1
      dsimp only
      have hAy := AG_sx hA q3 nP_q70
      refine wpe (e457 hAy hC hM (by omega) hac.2.1 hac.1.2 hR) (wpf (by simp (disch := first | omega | decide) only [↓neg1, nlit, rI, rL, rI2, rL1, nI_add, pk_mul, sbT, dvT, nmd, ixT, ↓ibT, ltT, ltF, leT, leF, eqT, eqF, nM_ltT, nM_ltF, nM_leT, nM_leF, nM_eqF, nM_eqF', nbT0, nbT1, oI_s, oI_n, natF, natT, nltT, nltF, nleT, nleF, ↓reduceIte, lgc, not_true_eq_false, not_false_eq_true, or_false, false_or, or_true, true_or, and_true, true_and, and_false, false_and, ne_eq, eq_self, or_self, and_self]) (wpt (by simp (disch := first | omega | decide) only [↓neg1, nlit, rI, rL, rI2, rL1, nI_add, pk_mul, sbT, dvT, nmd, ixT, ↓ibT, ltT, ltF, leT, leF, eqT, eqF, nM_ltT, nM_ltF, nM_leT, nM_leF, nM_eqF, nM_eqF', nbT0, nbT1, oI_s, oI_n, natF, natT, nltT, nltF, nleT, nleF, ↓reduceIte, lgc, not_true_eq_false, not_false_eq_true, or_false, false_or, or_true, true_or, and_true, true_and, and_false, false_and, ne_eq, eq_self, or_self, and_self]) ?_))
      rw [ix_n (by omega), K1 q3 253 f (by omega), h253]
      refine wpe (e458 hAy hC hM (by omega) hac.2.1 hac.1.2 hR hk) ?_
      obtain ⟨s', hP, hs'⟩ := wtp_P hC hM hR hk
      refine wpc (e449 hn hAy hG.1 hP hs' ho (FD_sx hF q3 (fun i => decide_eq_false (by omega)))) (fun r hr' => ?_)
      obtain ⟨r1, r2, -⟩ := hr'
      have q4 := sx_trans q3 (qR_70 r2)
      generalize r.2 = y2 at r2 q4 ⊢
      have hAz := AG_sx hA q4 nP_q70
      have L : ∀ j, 124 ≤ j → j ≤ 127 → y2.1 174 j = y.1 174 j := fun j z1 z2 => r2.1 174 j (decide_eq_false (by omega))
      refine wpt (by simp (disch := first | omega | decide) only [↓neg1, nlit, rI, rL, rI2, rL1, nI_add, pk_mul, sbT, dvT, nmd, ixT, ↓ibT, ltT, ltF, leT, leF, eqT, eqF, nM_ltT, nM_ltF, nM_leT, nM_leF, nM_eqF, nM_eqF', nbT0, nbT1, oI_s, oI_n, natF, natT, nltT, nltF, nleT, nleF, ↓reduceIte, lgc, not_true_eq_false, not_false_eq_true, or_false, false_or, or_true, true_or, and_true, true_and, and_false, false_and, ne_eq, eq_self, or_self, and_self]) (wpe (e459 hAz hC hM (by omega) hac.2.1 hac.1.2 hR hk) ?_)
      have hwb := wts_b hr hk
      have hd8 := hr.2.2.1
      have hwe : wts m (40 * M + i) k = 8 + dpn m (40 * M + i) - wnt m (40 * M + i) + k := rfl
      rw [K1 q4 255 f (by omega), h255, show (4 : Int32) * (16 * nI f + nI (8 + dpn m (40 * M + i)) - 1 - nI (wnt m (40 * M + i) - 1 - k)) + nI o = nI (4 * (16 * f + wts m (40 * M + i) k) + o) by
        rw [show (16 : Int32) = nI 16 from rfl, pk_mul, nI_add, show (1 : Int32) = nI 1 from rfl, pk_sub (by omega), pk_sub (by omega), show (4 : Int32) = nI 4 from rfl, pk_mul, nI_add]
        exact congrArg nI (by omega)]
      refine wpt (by simp (disch := first | omega | decide) only [↓neg1, nlit, rI, rL, rI2, rL1, nI_add, pk_mul, sbT, dvT, nmd, ixT, ↓ibT, ltT, ltF, leT, leF, eqT, eqF, nM_ltT, nM_ltF, nM_leT, nM_leF, nM_eqF, nM_eqF', nbT0, nbT1, oI_s, oI_n, natF, natT, nltT, nltF, nleT, nleF, ↓reduceIte, lgc, not_true_eq_false, not_false_eq_true, or_false, false_or, or_true, true_or, and_true, true_and, and_false, false_and, ne_eq, eq_self, or_self, and_self]) ?_
      obtain ⟨-, hsl⟩ := hS (16 * f + wts m (40 * M + i) k) (by omega)
      obtain ⟨hb1, hb2⟩ := hsl o ho
      dsimp only at hb2
      have hTM := (TST_K (n := n) hT hP hs' ho).2
      rw [ix_n (by omega), K1 q4 257 _ (by omega), hb2, r1]
      refine wpe (e387b hAz hG.1.1 ho hb1 hTM) ?_
      have hlk := lfK_le (b := lfB m c f M i) (pl := plI M) (i := i) (o := o) (z := lfO (lfB m c f M i) (plI M) i (wnt m (40 * M + i)) z o) k
      have hK1 : lfK (lfB m c f M i) (plI M) i o (lfO (lfB m c f M i) (plI M) i (wnt m (40 * M + i)) z o) (k + 1) = if lfB m c f M i o k = true then ntS (plI M) i o (lfK (lfB m c f M i) (plI M) i o (lfO (lfB m c f M i) (plI M) i (wnt m (40 * M + i)) z o) k) else lfK (lfB m c f M i) (plI M) i o (lfO (lfB m c f M i) (plI M) i (wnt m (40 * M + i)) z o) k := rfl
      have q5 : HLr y2 (lfK (lfB m c f M i) (plI M) i o (lfO (lfB m c f M i) (plI M) i (wnt m (40 * M + i)) z o) k) := ⟨(L 124 (by omega) (by omega)).trans q2.1, (L 125 (by omega) (by omega)).trans q2.2.1, (L 126 (by omega) (by omega)).trans q2.2.2.1, (L 127 (by omega) (by omega)).trans q2.2.2.2⟩
      refine wpjQ (fun v : cS => HLr v (lfK (lfB m c f M i) (plI M) i o (lfO (lfB m c f M i) (plI M) i (wnt m (40 * M + i)) z o) (k + 1)) ∧ sx q70 u v) (fun v hv => wpl ⟨nI_1 _, hv.1, hv.2⟩) ?_
      intro Q' k' hk'
      rw [hK1] at hk'
      generalize hZ : lfK (lfB m c f M i) (plI M) i o (lfO (lfB m c f M i) (plI M) i (wnt m (40 * M + i)) z o) k = Z at hk' hlk q5 ⊢
      by_cases hb : mBb m o (nbl (c.2 165 (16 * f + wts m (40 * M + i) k)) (8 + o)) (TM m c (wtp m M (40 * M + i) k) o) = true
      · rw [if_pos hb]
        have hl : lfB m c f M i o k = false := by
          unfold lfB
          rw [hb]
          rfl
        rw [hl, if_neg (by decide)] at hk'
        exact wpf (by decide) (hk' y2 ⟨q5, q4⟩)
      · rw [if_neg hb]
        have hl : lfB m c f M i o k = true := by
          unfold lfB
          rw [show mBb m o (nbl (c.2 165 (16 * f + wts m (40 * M + i) k)) (8 + o)) (TM m c (wtp m M (40 * M + i) k) o) = false by simpa using hb]
          rfl
        rw [hl, if_pos rfl] at hk'
        obtain ⟨z1, z2, z3, z4⟩ := q5
        refine wpt rfl (wpl ?_)
        rw [z1, show nI Z.1 + 1 = nI (Z.1 + 1) from nI_1 _]
        have hX : ∀ j, (pI y2 174 124 (nI (Z.1 + 1))).1 174 j = if j = 124 then nI (Z.1 + 1) else y2.1 174 j := fun j => by
          rw [rI]
          by_cases e : j = 124
          · rw [if_pos ⟨rfl, e⟩, if_pos e]
          · rw [if_neg (fun x => e x.2), if_neg e]
        have q6 : sx q70 u (pI y2 174 124 (nI (Z.1 + 1))) := sx_pI q4 rfl
        by_cases eZ : Z.1 = 0
        · have e0 : z.1 = 0 := by omega
          refine wpf (fun x => (hp1.mp x) e0) ?_
          rw [hX 124, if_pos rfl]
          refine wpt ((nI_le1 (by omega)).mpr eZ) (wpt (by simp (disch := first | omega | decide) only [↓neg1, nlit, rI, rL, rI2, rL1, nI_add, pk_mul, sbT, dvT, nmd, ixT, ↓ibT, ltT, ltF, leT, leF, eqT, eqF, nM_ltT, nM_ltF, nM_leT, nM_leF, nM_eqF, nM_eqF', nbT0, nbT1, oI_s, oI_n, natF, natT, nltT, nltF, nleT, nleF, ↓reduceIte, lgc, not_true_eq_false, not_false_eq_true, or_false, false_or, or_true, true_or, and_true, true_and, and_false, false_and, ne_eq, eq_self, or_self, and_self]) ?_)
          rw [K1 q6 253 f (by omega), h253]
          refine wpe (e422M hM96) (wpl (wpt (by simp (disch := first | omega | decide) only [↓neg1, nlit, rI, rL, rI2, rL1, nI_add, pk_mul, sbT, dvT, nmd, ixT, ↓ibT, ltT, ltF, leT, leF, eqT, eqF, nM_ltT, nM_ltF, nM_leT, nM_leF, nM_eqF, nM_eqF', nbT0, nbT1, oI_s, oI_n, natF, natT, nltT, nltF, nleT, nleF, ↓reduceIte, lgc, not_true_eq_false, not_false_eq_true, or_false, false_or, or_true, true_or, and_true, true_and, and_false, false_and, ne_eq, eq_self, or_self, and_self]) ?_))
          rw [rI, if_neg (by omega), K1 q6 254 f (by omega), h254]
          refine wpl (wpl (hk' _ ⟨⟨?_, ?_, ?_, ?_⟩, sx_pI (sx_pI (sx_pI q6 rfl) rfl) rfl⟩))
          · rw [rI, if_neg (by omega), rI, if_neg (by omega), rI, if_neg (by omega), hX, if_pos rfl]
            rfl
          · rw [rI, if_neg (by omega), rI, if_neg (by omega), rI, if_pos ⟨rfl, rfl⟩]
            exact (if_pos eZ).symm
          · rw [rI, if_neg (by omega), rI, if_pos ⟨rfl, rfl⟩]
            exact (if_pos eZ).symm
          · rw [rI, if_pos ⟨rfl, rfl⟩]
            exact (if_pos eZ).symm
        · have hG4 : HLr (pI y2 174 124 (nI (Z.1 + 1))) (ntS (plI M) i o Z) := by
            refine ⟨by rw [hX, if_pos rfl]; rfl, ?_, ?_, ?_⟩
            · rw [hX, if_neg (by omega), z2]
              exact (if_neg eZ).symm
            · rw [hX, if_neg (by omega), z3]
              exact (if_neg eZ).symm
            · rw [hX, if_neg (by omega), z4]
              exact (if_neg eZ).symm
          by_cases ep : p1 = 0
          · exact wpt ep (hk' _ ⟨hG4, q6⟩)
          · refine wpf ep ?_
            rw [hX 124, if_pos rfl]
            exact wpf (fun x => eZ ((nI_le1 (by omega)).mp x)) (hk' _ ⟨hG4, q6⟩)
    · rintro ⟨k0, y⟩ ⟨q1, q2, q3⟩
      dsimp only at q1 q2 q3
      subst q1
      dsimp only
      exact wpe (e457 (AG_sx hA q3 nP_q70) hC hM (by omega) hac.2.1 hac.1.2 hR) (wpt (by simp (disch := first | omega | decide) only [↓neg1, nlit, rI, rL, rI2, rL1, nI_add, pk_mul, sbT, dvT, nmd, ixT, ↓ibT, ltT, ltF, leT, leF, eqT, eqF, nM_ltT, nM_ltF, nM_leT, nM_leF, nM_eqF, nM_eqF', nbT0, nbT1, oI_s, oI_n, natF, natT, nltT, nltF, nleT, nleF, ↓reduceIte, lgc, not_true_eq_false, not_false_eq_true, or_false, false_or, or_true, true_or, and_true, true_and, and_false, false_and, ne_eq, eq_self, or_self, and_self]) ⟨q2, q3⟩)
  · rintro ⟨o0, w⟩ ⟨g1, g2, g3, g4⟩
    dsimp only at g1 g2 g3 g4
    subst g1
    dsimp only
    rw [K1 g4 174 15 (by omega), hA.2.2.1 15 rfl, hG.1.1.2.2.1]
    exact wpt (by simp (disch := first | omega | decide) only [↓neg1, nlit, rI, rL, rI2, rL1, nI_add, pk_mul, sbT, dvT, nmd, ixT, ↓ibT, ltT, ltF, leT, leF, eqT, eqF, nM_ltT, nM_ltF, nM_leT, nM_leF, nM_eqF, nM_eqF', nbT0, nbT1, oI_s, oI_n, natF, natT, nltT, nltF, nleT, nleF, ↓reduceIte, lgc, not_true_eq_false, not_false_eq_true, or_false, false_or, or_true, true_or, and_true, true_and, and_false, false_and, ne_eq, eq_self, or_self, and_self]) ⟨g3, g4⟩
end LER
