/-! KINDS and MAKERS told -/
def meT (m : cS) (k : Nat) : Nat → List (List Nat)
  | 0 => []
  | j + 1 => meT m k j ++ ([if j = 0 then [40] else [44]] ++ ([sg (m.2 191 (4 * k + j))] ++ ([[58]] ++ ([wb (if m.1 192 (4 * k + j) = nI 0 then 14 else 15)] ++ (if m.1 193 (4 * k + j) = nI 0 then [] else [[61]] ++ valT (txt m k j) (m.2 194 (4 * k + j)))))))
def soT (w : Nat) : Nat → List (List Nat)
  | 0 => []
  | t + 1 => soT w t ++ (if w.testBit t = true then [wb (4 + t)] else [])
def kiT (m : cS) (k : Nat) : List (List Nat) := [wb 3] ++ ([sg (m.2 189 k)] ++ (meT m k (kn m k) ++ ((if kn m k = 0 then [] else [[41]]) ++ ((if kw m k = 15 then [] else [wb 10] ++ soT (kw m k) 4) ++ ((if m.1 196 k = nI 0 then [] else [wb 11]) ++ ((if m.1 197 k = nI 0 then [] else [wb 12]) ++ ((if mz m (1200 + k) = 0 then [] else [[61]]) ++ (rwT m (1200 + k) (mz m (1200 + k)) ++ [[59]]))))))))
theorem val_c {n k j : Nat} {c m : cS} {L : List Nat} (hn : 1000 ≤ n) (hiv : m.1 192 (4 * k + j) = nI 0 → iv (m.2 194 (4 * k + j))) (hL : L ≠ []) (h : OC c L) : wp (d_323 n (txt m k j) (m.2 194 (4 * k + j)) c) (fun d => OC d (puts L (valT (txt m k j) (m.2 194 (4 * k + j)))) ∧ sx qO c d) := by
  unfold valT
  by_cases e : m.1 192 (4 * k + j) = nI 0
  · have ht : txt m k j = nI 1 := if_pos e
    rw [ht, if_neg (by decide)]
    have := e323i (x := (m.2 194 (4 * k + j)).toInt32) hn hL h
    rw [hiv e] at this
    exact this
  · have ht : txt m k j = nI 2 := if_neg e
    rw [ht, if_pos rfl]
    exact e323t hn h
theorem e327 {n w : Nat} {c : cS} {L : List Nat} (hn : 1000 ≤ n) (hW : WT c) (hw : w < 16) (h : OC c L) : wp (d_327 n (nI w) c) (fun d => OC d (puts L (if w = 15 then [] else [wb 10] ++ soT w 4)) ∧ sx qO c d) := by
  unfold d_327
  by_cases e : w = 15
  · rw [if_pos e]
    exact wpt (by rw [e]; rfl) ⟨h, sx_rfl⟩
  · rw [if_neg e, puts_app, puts_1]
    refine wpf (fun z => e ((nI_eq (by omega) (by omega)).mp z)) (wpc (e321 (i := 8) hn hW (by decide) h) (fun d1 h1 => ?_))
    have h11 := h1.1
    generalize put L (wb 10) = L1 at *
    refine wpc (K' := fun d : cS => OC d (puts L1 (soT w 4)) ∧ sx qO c d) (whl_cnt (fun t (st : Int32 × cS) => st.1 = nI t ∧ OC st.2 (puts L1 (soT w t)) ∧ sx qO c st.2) 4 ?_ ?_ (by omega) ⟨rfl, h11, h1.2⟩) (fun d hd => hd)
    · rintro t ⟨t0, y⟩ ht ⟨g1, g2, g3⟩
      dsimp only at g1 g2 g3
      subst g1
      dsimp only
      refine wpf (by simp (disch := first | omega | decide) only [↓neg1, nlit, rI, rL, rI2, rL1, nI_add, pk_mul, sbT, dvT, nmd, ixT, ↓ibT, ltT, ltF, leT, leF, eqT, eqF, nM_ltT, nM_ltF, nM_leT, nM_leF, nM_eqF, nM_eqF', nbT0, nbT1, oI_s, oI_n, natF, natT, nltT, nltF, nleT, nleF, ↓reduceIte, lgc, not_true_eq_false, not_false_eq_true, or_false, false_or, or_true, true_or, and_true, true_and, and_false, false_and, ne_eq, eq_self, or_self, and_self]) ?_
      have hso : soT w (t + 1) = soT w t ++ (if w.testBit t = true then [wb (4 + t)] else []) := rfl
      refine wpjQ (fun z : cS => OC z (puts L1 (soT w (t + 1))) ∧ sx qO c z) (fun z hz => wpl ⟨nI_1 _, hz.1, hz.2⟩) ?_
      intro Q' k' hk'
      rw [hso] at hk'
      by_cases eb : w.testBit t = true
      · rw [if_pos eb, puts_app, puts_1] at hk'
        refine wpf (fun z => by rw [bit_n (by omega) (by omega)] at z; rw [eb] at z; cases z) ?_
        have h321 := e321 (n := n) (i := 2 + t) hn (WT_sx hW g3 (fun i => qO_no (by omega))) (by omega) g2
        rw [show 200 + (2 + t) = 202 + t by omega, show 2 + (2 + t) = 4 + t by omega] at h321
        rw [show (202 : Int32) + nI t = nI (202 + t) from nI_add 202 t]
        exact wpc h321 (fun d hd => hk' d ⟨hd.1, sx_trans g3 hd.2⟩)
      · rw [if_neg eb, List.append_nil] at hk'
        exact wpt ((bit_n (by omega) (by omega)).mpr (by simpa using eb)) (hk' y ⟨g2, g3⟩)
    · rintro ⟨t0, y⟩ ⟨g1, g2, g3⟩
      dsimp only at g1 g2 g3
      subst g1
      exact wpt (by dsimp only; decide) ⟨g2, g3⟩
theorem e326 {n k : Nat} {c m : cS} {L : List Nat} (hn : 1000 ≤ n) (hW : WT c) (hE : EC c m) (hk : k < kcn m) (h : OC c L) : wp (d_326 n (nI k) k c) (fun d => OC d (puts L (kiT m k)) ∧ sx qO c d) := by
  have hk12 : k < 12 := by
    have := hE.2.1.1
    omega
  have hK := hE.2.1.2.2.2.1 k hk
  have hkn := hK.2.1
  have CA' : ∀ {d : cS}, sx qO c d → CA c d := fun h => CA_sx h nC_qO
  have K' : ∀ {d : cS}, sx qO c d → RK d m k := fun h => RK_CA (CA' h) hk12 hK
  have W' : ∀ {d : cS}, sx qO c d → WT d := fun h => WT_sx hW h (fun i => qO_no (by omega))
  unfold kiT
  rw [puts_app, puts_1, puts_app, puts_1, puts_app, puts_app, puts_app, puts_app, puts_app, puts_app, puts_app, puts_1]
  unfold d_326
  refine wpc (e321 (i := 1) hn hW (by decide) h) (fun d1 h1 => ?_)
  have hL1 : put L (wb 3) ≠ [] := put_ne (Or.inr (wb_ne (by decide) (by decide)))
  rw [(K' h1.2).1]
  refine wpc (e320 hn h1.1) (fun d2 h2 => ?_)
  have s2 := sx_trans h1.2 h2.2
  have hO2 := h2.1
  have hL2 : put (put L (wb 3)) (sg (m.2 189 k)) ≠ [] := put_ne (Or.inl hL1)
  generalize put (put L (wb 3)) (sg (m.2 189 k)) = L2 at *
  refine wpc (K' := fun d : cS => OC d (puts L2 (meT m k (kn m k))) ∧ sx qO c d) (whl_cnt (fun j (st : Int32 × cS) => st.1 = nI j ∧ OC st.2 (puts L2 (meT m k j)) ∧ sx qO c st.2) (kn m k) ?_ ?_ (by omega) ⟨rfl, hO2, s2⟩) ?_
  · rintro j ⟨j0, w⟩ hj ⟨g1, g2, g3⟩
    dsimp only at g1 g2 g3
    subst g1
    dsimp only
    rw [(K' g3).2.2.2.1]
    refine wpf (by simp (disch := first | omega | decide) only [↓neg1, nlit, rI, rL, rI2, rL1, nI_add, pk_mul, sbT, dvT, nmd, ixT, ↓ibT, ltT, ltF, leT, leF, eqT, eqF, nM_ltT, nM_ltF, nM_leT, nM_leF, nM_eqF, nM_eqF', nbT0, nbT1, oI_s, oI_n, natF, natT, nltT, nltF, nleT, nleF, ↓reduceIte, lgc, not_true_eq_false, not_false_eq_true, or_false, false_or, or_true, true_or, and_true, true_and, and_false, false_and, ne_eq, eq_self, or_self, and_self]) ?_
    have hme : meT m k (j + 1) = meT m k j ++ ([if j = 0 then [40] else [44]] ++ ([sg (m.2 191 (4 * k + j))] ++ ([[58]] ++ ([wb (if m.1 192 (4 * k + j) = nI 0 then 14 else 15)] ++ (if m.1 193 (4 * k + j) = nI 0 then [] else [[61]] ++ valT (txt m k j) (m.2 194 (4 * k + j))))))) := rfl
    refine wpjQ (fun p : Int32 => ∃ b, p = nI b ∧ b < 256 ∧ (if j = 0 then [40] else [44]) = [b]) ?_ ?_
    · rintro p ⟨b, rfl, hb, hbe⟩
      refine wpc (e322 hb g2) (fun y1 f1 => wpt (by simp (disch := first | omega | decide) only [↓neg1, nlit, rI, rL, rI2, rL1, nI_add, pk_mul, sbT, dvT, nmd, ixT, ↓ibT, ltT, ltF, leT, leF, eqT, eqF, nM_ltT, nM_ltF, nM_leT, nM_leF, nM_eqF, nM_eqF', nbT0, nbT1, oI_s, oI_n, natF, natT, nltT, nltF, nleT, nleF, ↓reduceIte, lgc, not_true_eq_false, not_false_eq_true, or_false, false_or, or_true, true_or, and_true, true_and, and_false, false_and, ne_eq, eq_self, or_self, and_self]) ?_)
      have t1 := sx_trans g3 f1.2
      try rw [ix_n (by omega)]
      rw [((K' t1).2.2.2.2.1 j hj).1]
      refine wpc (e320 hn f1.1) (fun y2 f2 => wpc (e322 (b := 58) (by decide) f2.1) (fun y3 f3 => wpt (by simp (disch := first | omega | decide) only [↓neg1, nlit, rI, rL, rI2, rL1, nI_add, pk_mul, sbT, dvT, nmd, ixT, ↓ibT, ltT, ltF, leT, leF, eqT, eqF, nM_ltT, nM_ltF, nM_leT, nM_leF, nM_eqF, nM_eqF', nbT0, nbT1, oI_s, oI_n, natF, natT, nltT, nltF, nleT, nleF, ↓reduceIte, lgc, not_true_eq_false, not_false_eq_true, or_false, false_or, or_true, true_or, and_true, true_and, and_false, false_and, ne_eq, eq_self, or_self, and_self]) ?_))
      have t3 := sx_trans t1 (sx_trans f2.2 f3.2)
      rw [((K' t3).2.2.2.2.1 j hj).2.2.1]
      have hnb := (hK.2.2.2.2.1 j hj).2.2.2.1
      refine wpjQ (fun p : Int32 => p = nI (200 + if m.1 192 (4 * k + j) = nI 0 then 12 else 13)) ?_ ?_
      · rintro p rfl
        have h321 := e321 (n := n) (i := if m.1 192 (4 * k + j) = nI 0 then 12 else 13) hn (W' t3) (by split <;> omega) f3.1
        refine wpc h321 (fun y4 f4 => wpt (by simp (disch := first | omega | decide) only [↓neg1, nlit, rI, rL, rI2, rL1, nI_add, pk_mul, sbT, dvT, nmd, ixT, ↓ibT, ltT, ltF, leT, leF, eqT, eqF, nM_ltT, nM_ltF, nM_leT, nM_leF, nM_eqF, nM_eqF', nbT0, nbT1, oI_s, oI_n, natF, natT, nltT, nltF, nleT, nleF, ↓reduceIte, lgc, not_true_eq_false, not_false_eq_true, or_false, false_or, or_true, true_or, and_true, true_and, and_false, false_and, ne_eq, eq_self, or_self, and_self]) ?_)
        have t4 := sx_trans t3 f4.2
        rw [((K' t4).2.2.2.2.1 j hj).2.2.2.2.1]
        have f41 := f4.1
        rw [show wb (2 + if m.1 192 (4 * k + j) = nI 0 then 12 else 13) = wb (if m.1 192 (4 * k + j) = nI 0 then 14 else 15) by split <;> rfl] at f41
        refine wpjQ (fun z : cS => OC z (puts L2 (meT m k (j + 1))) ∧ sx qO c z) (fun z hz => wpl ⟨nI_1 _, hz.1, hz.2⟩) ?_
        intro Q' k' hk'
        rw [hme, hbe, puts_app, puts_app, puts_1, puts_app, puts_1, puts_app, puts_1, puts_app, puts_1] at hk'
        by_cases e : m.1 193 (4 * k + j) = nI 0
        · rw [if_pos e] at hk'
          exact wpt e (hk' y4 ⟨f41, t4⟩)
        · rw [if_neg e, puts_app, puts_1] at hk'
          have e1 := nbq hnb e
          refine wpf (by rw [e1]; decide) (wpc (e322 (b := 61) (by decide) f41) (fun y5 f5 => wpt (by simp (disch := first | omega | decide) only [↓neg1, nlit, rI, rL, rI2, rL1, nI_add, pk_mul, sbT, dvT, nmd, ixT, ↓ibT, ltT, ltF, leT, leF, eqT, eqF, nM_ltT, nM_ltF, nM_leT, nM_leF, nM_eqF, nM_eqF', nbT0, nbT1, oI_s, oI_n, natF, natT, nltT, nltF, nleT, nleF, ↓reduceIte, lgc, not_true_eq_false, not_false_eq_true, or_false, false_or, or_true, true_or, and_true, true_and, and_false, false_and, ne_eq, eq_self, or_self, and_self]) (wpt (by simp (disch := first | omega | decide) only [↓neg1, nlit, rI, rL, rI2, rL1, nI_add, pk_mul, sbT, dvT, nmd, ixT, ↓ibT, ltT, ltF, leT, leF, eqT, eqF, nM_ltT, nM_ltF, nM_leT, nM_leF, nM_eqF, nM_eqF', nbT0, nbT1, oI_s, oI_n, natF, natT, nltT, nltF, nleT, nleF, ↓reduceIte, lgc, not_true_eq_false, not_false_eq_true, or_false, false_or, or_true, true_or, and_true, true_and, and_false, false_and, ne_eq, eq_self, or_self, and_self]) ?_)))
          have t5 := sx_trans t4 f5.2
          rw [((K' t5).2.2.2.2.1 j hj).2.2.1, (((K' t5).2.2.2.2.1 j hj).2.2.2.2.2 e1).1]
          exact wpc (val_c hn ((hK.2.2.2.2.1 j hj).2.2.2.2.2 e1).2 (put_ne (Or.inr (by simp))) f5.1) (fun y6 f6 => hk' y6 ⟨f6.1, sx_trans t5 f6.2⟩)
      · intro Q' k' hk'
        by_cases e : m.1 192 (4 * k + j) = nI 0
        · refine wpt (show txt m k j = 1 from if_pos e) (hk' _ ?_)
          rw [if_pos e]
          rfl
        · refine wpf (by rw [show txt m k j = nI 2 from if_neg e]; decide) (hk' _ ?_)
          rw [if_neg e]
          rfl
    · intro Q' k' hk'
      by_cases e0 : j = 0
      · exact wpt (by rw [e0]; rfl) (hk' _ ⟨40, rfl, by decide, if_pos e0⟩)
      · exact wpf (fun z => e0 ((nI_eq (by omega) (by omega)).mp z)) (hk' _ ⟨44, rfl, by decide, if_neg e0⟩)
  · rintro ⟨j0, w⟩ ⟨g1, g2, g3⟩
    dsimp only at g1 g2 g3
    subst g1
    dsimp only
    rw [(K' g3).2.2.2.1]
    exact wpt (by simp (disch := first | omega | decide) only [↓neg1, nlit, rI, rL, rI2, rL1, nI_add, pk_mul, sbT, dvT, nmd, ixT, ↓ibT, ltT, ltF, leT, leF, eqT, eqF, nM_ltT, nM_ltF, nM_leT, nM_leF, nM_eqF, nM_eqF', nbT0, nbT1, oI_s, oI_n, natF, natT, nltT, nltF, nleT, nleF, ↓reduceIte, lgc, not_true_eq_false, not_false_eq_true, or_false, false_or, or_true, true_or, and_true, true_and, and_false, false_and, ne_eq, eq_self, or_self, and_self]) ⟨g2, g3⟩
  · rintro x ⟨x1, x2⟩
    generalize puts L2 (meT m k (kn m k)) = L3 at *
    rw [(K' x2).2.2.2.1]
    refine wpjQ (fun z : cS => OC z (puts L3 (if kn m k = 0 then [] else [[41]])) ∧ sx qO c z) ?_ ?_
    · rintro y ⟨y1, y2⟩
      generalize puts L3 (if kn m k = 0 then [] else [[41]]) = L4 at *
      rw [(K' y2).2.2.2.2.2.2.2.1]
      refine wpc (e327 hn (W' y2) hK.2.2.2.2.2.1 y1) (fun r hr => ?_)
      have sr := sx_trans y2 hr.2
      have hr1 := hr.1
      generalize puts L4 (if kw m k = 15 then [] else [wb 10] ++ soT (kw m k) 4) = L5 at *
      rw [(K' sr).2.2.2.2.2.2.2.2.2.1]
      refine wpjQ (fun z : cS => OC z (puts L5 (if m.1 196 k = nI 0 then [] else [wb 11])) ∧ sx qO c z) ?_ ?_
      · rintro z ⟨z1, z2⟩
        generalize puts L5 (if m.1 196 k = nI 0 then [] else [wb 11]) = L6 at *
        rw [(K' z2).2.2.2.2.2.2.2.2.2.2.2]
        refine wpjQ (fun z : cS => OC z (puts L6 (if m.1 197 k = nI 0 then [] else [wb 12])) ∧ sx qO c z) ?_ ?_
        · rintro w ⟨w1, w2⟩
          generalize puts L6 (if m.1 197 k = nI 0 then [] else [wb 12]) = L7 at *
          have hQ := hE.2.1.2.2.2.2.2.1 k hk
          have hz20 := hQ.1.1
          rw [show (1200 : Int32) + nI k = nI (1200 + k) from nI_add 1200 k]
          refine wpt (by simp (disch := first | omega | decide) only [↓neg1, nlit, rI, rL, rI2, rL1, nI_add, pk_mul, sbT, dvT, nmd, ixT, ↓ibT, ltT, ltF, leT, leF, eqT, eqF, nM_ltT, nM_ltF, nM_leT, nM_leF, nM_eqF, nM_eqF', nbT0, nbT1, oI_s, oI_n, natF, natT, nltT, nltF, nleT, nleF, ↓reduceIte, lgc, not_true_eq_false, not_false_eq_true, or_false, false_or, or_true, true_or, and_true, true_and, and_false, false_and, ne_eq, eq_self, or_self, and_self]) ?_
          try rw [ix_n (by omega)]
          rw [CA_l (CA' w2) (a := 144) (by omega) (by omega) (by omega), hQ.1.2.2.1]
          refine wpjQ (fun z : cS => OC z (puts (puts L7 (if mz m (1200 + k) = 0 then [] else [[61]])) (rwT m (1200 + k) (mz m (1200 + k)))) ∧ sx qO c z) (fun z hz => wpc (e322 (b := 59) (by decide) hz.1) (fun d hd => ⟨hd.1, sx_trans hz.2 hd.2⟩)) ?_
          intro Q' k' hk'
          by_cases e : mz m (1200 + k) = 0
          · rw [if_pos e, e] at hk'
            exact wpt (by rw [e]; decide) (hk' w ⟨w1, w2⟩)
          · rw [if_neg e, puts_1] at hk'
            refine wpf (fun z => by
              have := Int32.le_iff_toInt_le.mp z
              rw [nI_toInt (by omega), show (0 : Int32).toInt = 0 by decide] at this
              omega) (wpc (e322 (b := 61) (by decide) w1) (fun y5 f5 => ?_))
            have t5 := sx_trans w2 f5.2
            exact wpc (e330 hn (W' t5) (EC_CA (CA' t5) hE) (RT_Q (RQ_CA (CA' t5) hQ) (by omega) (by omega)) f5.1) (fun y6 f6 => hk' y6 ⟨f6.1, sx_trans t5 f6.2⟩)
        · intro Q' k' hk'
          have hnb := hK.2.2.2.2.2.2.2.2.2.2.1
          by_cases e : m.1 197 k = nI 0
          · rw [if_pos e] at hk'
            exact wpt e (hk' z ⟨z1, z2⟩)
          · rw [if_neg e, puts_1] at hk'
            exact wpf (by rw [nbq hnb e]; decide) (wpc (e321 (i := 10) hn (W' z2) (by decide) z1) (fun d hd => hk' d ⟨hd.1, sx_trans z2 hd.2⟩))
      · intro Q' k' hk'
        have hnb := hK.2.2.2.2.2.2.2.2.1
        by_cases e : m.1 196 k = nI 0
        · rw [if_pos e] at hk'
          exact wpt e (hk' r ⟨hr1, sr⟩)
        · rw [if_neg e, puts_1] at hk'
          exact wpf (by rw [nbq hnb e]; decide) (wpc (e321 (i := 9) hn (W' sr) (by decide) hr1) (fun d hd => hk' d ⟨hd.1, sx_trans sr hd.2⟩))
    · intro Q' k' hk'
      by_cases e : kn m k = 0
      · rw [if_pos e] at hk'
        exact wpt (by rw [e]; decide) (hk' x ⟨x1, x2⟩)
      · rw [if_neg e, puts_1] at hk'
        refine wpf (fun z => by
          have := Int32.le_iff_toInt_le.mp z
          rw [nI_toInt (by omega), show (0 : Int32).toInt = 0 by decide] at this
          omega) (wpc (e322 (b := 41) (by decide) x1) (fun d hd => hk' d ⟨hd.1, sx_trans x2 hd.2⟩))
