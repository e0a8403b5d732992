/-! WIRING: a part is made: the loop over those above, and the whole -/
section MKL
variable {n t p s k x y a3 f : Nat} {c w w1 m u v v1 v2 v3 : cS} {S S1 : Nat → Nat}
theorem mk_lp {e E : Nat} (hn : 1000 ≤ n) (hN : CN m) (hx : x < ccn m) (ha : a3 < 12) (hE : EC w m) (hA : AG m v) (h : WR m w v S k) (hv : v.1 174 131 = nI 0) (hE13 : 13 ≤ E)
  (hrec : ∀ t s, s < 12 → kOf m 2002873972 = some t → ∀ w1 v1 S1 k1, EC w1 m → AG m v1 → WR m w1 v1 S1 k1 → XS S S1 (nI 0) → v1.1 174 131 = nI 0 → ∀ y, y < ccn m → S1 y = 0 → jw (d_347 e n (nI y) (nI t) (nI (a3 + 1)) w1) (d_478 (d_479 (E - (s + 1)) n) n (nI y) v1) (LK m w1 v1 S1)) :
  wp (mkC (d_347 e n) n (nI x) (oI (kOf m 2002873972)) (nI a3) w) (fun r => ∃ v', rfp E n m x 0 v = some v' ∧ Sum.elim (fun w' => LK m w v S (nI 0, w') v') (fun q => LK m w v S q v' ∧ q.1 ≠ nI 0) r) := by
  obtain ⟨h12, hp⟩ := CCS_p hE.2.2.1
  have k12 := hE.2.1.1
  have hae := anc_end h12 hp hx
  unfold mkC
  cases ht : kOf m 2002873972 with
  | none =>
    rw [show n = (n - 1) + 1 by omega]
    have hw : oI (kOf m 2002873972) < 0 := by
      rw [ht]
      decide
    refine wp_of (whl_out (b := Sum.inl w) (eq_wp (wpf (show ¬ (12 : Int32) < 0 by decide) (wpt (show nM < 0 by decide) rfl)))) ?_
    rw [show n - 1 + 1 = n by omega]
    exact ⟨v, rfp_dn hn hA hA hE hx (Or.inl hw) 12 (by omega) (rfp_n hae), S, k, h, hv, XS_rfl, sx_rfl, sx_rfl, Or.inl rfl⟩
  | some t =>
    have htl : t < kcn m := (ff_some ht).1
    rw [oI_s]
    refine whl_cnt (fun j (st : Int32 × cS) => st.1 = (if j = 13 then nM else nI (12 - j)) ∧ ∃ v2, rfp E n m x (13 - j) v = some v2 ∧ LK m w v S (nI 0, st.2) v2) 13 ?_ ?_ (by omega) ⟨rfl, v, rfp_n (anc_none hae 1), S, k, h, hv, XS_rfl, sx_rfl, sx_rfl, Or.inl rfl⟩
    · rintro j ⟨s0, w1⟩ hj ⟨g1, v1, g2, S1, k1, g3, g4, g5, g6, g7, -⟩
      dsimp only at g1 g3 g4 g5 g6
      subst g1
      dsimp only
      have hE1 := EC_CA (CA_sx g6 nC_Wc) hE
      have hA1 := AG_sx hA g7 nP_Ws
      have hdec := dec12 j hj
      rw [if_neg (show ¬ j = 13 by omega)] at hdec ⊢
      rw [show 13 - j = (12 - j) + 1 by omega] at g2
      rw [show 13 - (j + 1) = 12 - j by omega]
      generalize hs : 12 - j = s at *
      refine wpf (by simp (disch := first | omega | decide) only [↓neg1, nlit, rI, rL, rI2, rL1, nI_add, pk_mul, sbT, dvT, nmd, ixT, ↓ibT, ltT, ltF, leT, leF, eqT, eqF, nM_ltT, nM_ltF, nM_leT, nM_leF, nM_eqF, nM_eqF', nbT0, nbT1, oI_s, oI_n, natF, natT, nltT, nltF, nleT, nleF, ↓reduceIte, lgc, not_true_eq_false, not_false_eq_true, or_false, false_or, or_true, true_or, and_true, true_and, and_false, false_and, ne_eq, eq_self, or_self, and_self]) (wpf (by simp (disch := first | omega | decide) only [↓neg1, nlit, rI, rL, rI2, rL1, nI_add, pk_mul, sbT, dvT, nmd, ixT, ↓ibT, ltT, ltF, leT, leF, eqT, eqF, nM_ltT, nM_ltF, nM_leT, nM_leF, nM_eqF, nM_eqF', nbT0, nbT1, oI_s, oI_n, natF, natT, nltT, nltF, nleT, nleF, ↓reduceIte, lgc, not_true_eq_false, not_false_eq_true, or_false, false_or, or_true, true_or, and_true, true_and, and_false, false_and, ne_eq, eq_self, or_self, and_self]) (wpe (e255 (by omega) hE1.2.2.1 hx (by omega)) ?_))
      cases hy : anc m x s with
      | none =>
        refine wpe (show ndC _ _ _ _ _ (oI none) _ = _ from ndC_n hn) (wpl ⟨hdec, v1, ?_, S1, k1, g3, g4, g5, g6, g7, Or.inl rfl⟩)
        rw [rfp_n (anc_none hy 1)] at g2
        rw [rfp_n hy]
        exact g2
      | some y =>
        have hyl := anc_lt h12 hp hx hy
        obtain ⟨r, v2, a1, a2, a4⟩ := jw_ex (node (x := x) (E := E - (s + 1)) hn hN htl (show y < ccn m by omega) ha hE1 hA1 g3 g4 (fun w' v' S' k' z1 z2 z3 z4 z5 y' z6 z7 => hrec t s (by omega) ht w' v' S' k' z1 z2 z3 (XS_tr g5 z4) z5 y' z6 z7))
        refine wpe (show ndC _ _ _ _ _ (oI (some y)) _ = _ from a1) ?_
        have a2 : ndR (d_479 (E - (s + 1)) n) n (nI x) (nI y) (oI (kOf m 2002873972)) v1 = some v2 := by
          rw [ht]
          exact a2
        cases r with
        | inl w2 =>
          obtain ⟨S2, k2, b1, b2, b3, b4, b5, b6⟩ := a4
          refine wpl ⟨hdec, v2, rfp_st hn hA hA1 hE hx hy (by omega) g2 a2, S2, k2, b1, b2, XS_tr g5 b3, sx_trans g6 b4, sx_trans g7 b5, b6⟩
        | inr q =>
          obtain ⟨⟨S2, k2, b1, b2, b3, b4, b5, b6⟩, b7⟩ := a4
          refine ⟨v2, rfp_dn hn hA (AG_sx hA1 b5 nP_Ws) hE hx (Or.inr (by rw [b2]; exact b7)) s (by omega) (rfp_st hn hA hA1 hE hx hy (by omega) g2 a2), ⟨S2, k2, b1, b2, XS_tr g5 b3, sx_trans g6 b4, sx_trans g7 b5, b6⟩, b7⟩
    · rintro ⟨s0, w1⟩ ⟨g1, v1, g2, g3⟩
      dsimp only at g1 g3
      subst g1
      dsimp only
      exact wpt (by decide) ⟨v1, g2, g3⟩
theorem mk_go (hn : 1000 ≤ n) (hN : CN m) : ∀ (z : Nat) {e E a3 x k : Nat} {S : Nat → Nat} {w v : cS}, x < ccn m → S x = 0 → c0n m S ≤ z → z ≤ e → 13 * z ≤ E → a3 + z ≤ 12 → EC w m → AG m v → WR m w v S k → v.1 174 131 = nI 0 → jw (d_347 e n (nI x) (oI (kOf m 2002873972)) (nI a3) w) (d_478 (d_479 E n) n (nI x) v) (LK m w v S)
  | 0, e, E, a3, x, k, S, w, v, hx, h0, hz, _, _, _, _, _, _, _ => by
    have := c0n_1 hx h0
    omega
  | z + 1, 0, E, a3, x, k, S, w, v, hx, h0, hz, he, _, _, _, _, _, _ => by omega
  | z + 1, e + 1, E, a3, x, k, S, w, v, hx, h0, hz, he, hE13, ha, hE, hA, h, hv => by
    obtain ⟨h12, hp⟩ := CCS_p hE.2.2.1
    have hc := c0n_1 hx h0
    have i1 : ix (nI x) = x := ix_n (by omega)
    have hb1 : vp_nar .boolean 1 = nI 1 := by decide
    have hb0 : vp_nar .boolean 0 = nI 0 := by decide
    have hibx : ib (nI x) 12 := by simp (disch := first | omega | decide) only [↓neg1, nlit, rI, rL, rI2, rL1, nI_add, pk_mul, sbT, dvT, nmd, ixT, ↓ibT, ltT, ltF, leT, leF, eqT, eqF, nM_ltT, nM_ltF, nM_leT, nM_leF, nM_eqF, nM_eqF', nbT0, nbT1, oI_s, oI_n, natF, natT, nltT, nltF, nleT, nleF, ↓reduceIte, lgc, not_true_eq_false, not_false_eq_true, or_false, false_or, or_true, true_or, and_true, true_and, and_false, false_and, ne_eq, eq_self, or_self, and_self]
    have sw : sx qWc w (pI w 170 x (nI 1)) := sx_pI sx_rfl (decide_eq_true (by omega))
    have sv : sx qWs v (pI v 263 x (nI 1)) := sx_pI sx_rfl (decide_eq_true (by omega))
    have hE1 := EC_CA (CA_sx sw nC_Wc) hE
    have hA1 := AG_sx hA sv nP_Ws
    have hW1 := WR_1 hx h h0
    have hv1 : (pI v 263 x (nI 1)).1 174 131 = nI 0 := by
      rw [rI, if_neg (by omega)]
      exact hv
    have hlp := mk_lp (e := e) (E := E) (x := x) (a3 := a3) hn hN hx (by omega) hE1 hA1 hW1 hv1 (by omega) (fun t s hs ht w' v' S' k' z1 z2 z3 z4 z5 y z6 z7 => by
      have := c0n_le (m := m) z4
      have hr := mk_go hn hN z (e := e) (E := E - (s + 1)) (a3 := a3 + 1) (x := y) z6 z7 (by omega) (by omega) (by omega) (by omega) z1 z2 z3 z5
      rw [ht] at hr
      exact hr)
    obtain ⟨r, hr, v2, hr2, hpost⟩ := wp_ex hlp
    have hrf : d_479 E n (nI x) (nI x) (pI v 263 x (nI 1)) = some v2 := hr2
    rw [d347_s]
    refine wpt hibx ?_
    rw [i1]
    refine wpl (wpe hr ?_)
    unfold d_478
    rw [i1, hb1, hb0]
    cases r with
    | inl w2 =>
      obtain ⟨S2, k2, b1, b2, b3, b4, b5, b6⟩ := hpost
      dsimp only at b1 b2 b3 b4 b6
      have hS2 : S2 x = 1 := by
        rw [b3.1 x (by rw [sU_x]; decide), sU_x]
      have hk2 := WR_k hE.2.2.1 hx b1 (by omega)
      have hW2 := WR_2 hE.2.2.1 hx b1 hS2
      refine wpt hibx (wpl (wpl ?_))
      have q7 : (pI w2 170 x 2).1 167 7 = nI k2 := by
        rw [rI, if_neg (by omega)]
        exact b1.2.1
      rw [q7]
      refine wpt (by simp (disch := first | omega | decide) only [↓neg1, nlit, rI, rL, rI2, rL1, nI_add, pk_mul, sbT, dvT, nmd, ixT, ↓ibT, ltT, ltF, leT, leF, eqT, eqF, nM_ltT, nM_ltF, nM_leT, nM_leF, nM_eqF, nM_eqF', nbT0, nbT1, oI_s, oI_n, natF, natT, nltT, nltF, nleT, nleF, ↓reduceIte, lgc, not_true_eq_false, not_false_eq_true, or_false, false_or, or_true, true_or, and_true, true_and, and_false, false_and, ne_eq, eq_self, or_self, and_self]) (wpl ?_)
      rw [ix_n (by omega), nI_1]
      show wp _ _
      refine wpt hibx (wpl (wpe hrf (wpt (by rw [b2]; decide) (wpt hibx (wpl (wpt hibx (wpl ?_)))))))
      have q134 : (pI (pI v2 263 x (nI 0)) 262 x (nI 1)).1 174 134 = nI k2 := by
        rw [rI, if_neg (by omega), rI, if_neg (by omega)]
        exact b1.2.2.1
      rw [q134]
      refine wpt (by simp (disch := first | omega | decide) only [↓neg1, nlit, rI, rL, rI2, rL1, nI_add, pk_mul, sbT, dvT, nmd, ixT, ↓ibT, ltT, ltF, leT, leF, eqT, eqF, nM_ltT, nM_ltF, nM_leT, nM_leF, nM_eqF, nM_eqF', nbT0, nbT1, oI_s, oI_n, natF, natT, nltT, nltF, nleT, nleF, ↓reduceIte, lgc, not_true_eq_false, not_false_eq_true, or_false, false_or, or_true, true_or, and_true, true_and, and_false, false_and, ne_eq, eq_self, or_self, and_self]) ?_
      rw [ix_n (by omega)]
      refine wpl ?_
      have q134' : (pI (pI (pI v2 263 x (nI 0)) 262 x (nI 1)) 261 k2 (nI x)).1 174 134 = nI k2 := by
        rw [rI, if_neg (by omega)]
        exact q134
      rw [q134', nI_1]
      refine wpl ⟨sU S2 x 2, k2 + 1, hW2, ?_, ⟨fun i z => ?_, fun _ i z => ?_⟩, ?_, ?_, Or.inl rfl⟩
      · rw [rI, if_neg (by omega), rI, if_neg (by omega), rI, if_neg (by omega), rI, if_neg (by omega)]
        exact b2
      · have e : i ≠ x := fun e => z (by rw [e]; exact h0)
        rw [sU_n e, b3.1 i (by rw [sU_n e]; exact z), sU_n e]
      · by_cases e : i = x
        · rw [e, sU_x] at z
          cases z
        · rw [sU_n e] at z
          have := b3.2 rfl i z
          rw [sU_n e] at this
          exact this
      · exact sx_pI (sx_pI (sx_pI (sx_trans sw b4) (decide_eq_true (by omega))) (decide_eq_true (by omega))) (decide_eq_true (by omega))
      · exact sx_pI (sx_pI (sx_pI (sx_pI (sx_trans sv b5) (decide_eq_true (by omega))) (decide_eq_true (by omega))) (decide_eq_true (by omega))) (decide_eq_true (by omega))
    | inr q =>
      obtain ⟨⟨S2, k2, b1, b2, b3, b4, b5, b6⟩, b7⟩ := hpost
      have hpos : 0 < q.1 := b6.resolve_left b7
      refine wpt hibx (wpl (wpe hrf (wpf (fun z => ?_) ⟨S2, k2, b1, b2, ⟨fun i z => ?_, fun z => absurd z b7⟩, sx_trans sw b4, sx_trans sv b5, b6⟩)))
      · rw [b2] at z
        have h1 := Int32.lt_iff_toInt_lt.mp hpos
        have h2 := Int32.le_iff_toInt_le.mp z
        omega
      · have e : i ≠ x := fun e => z (by rw [e]; exact h0)
        rw [b3.1 i (by rw [sU_n e]; exact z), sU_n e]
end MKL
