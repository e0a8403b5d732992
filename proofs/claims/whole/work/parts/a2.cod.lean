/-! the call code -/
/-- TOKENS of the CHECKS before an ACT -/
def ckT (m : cS) (M b : Nat) (KK : Nat → Nat → Nat) (t : Nat) : List (List Nat) := [wb 35, sg (m.2 181 (t / 4)), [46], sg (m.2 183 (12 * (t / 4) + KK (t / 4) (wtp m M b (t % 4))))] ++ ([dgk (wnt m b - 1 - t % 4) (nd (wnt m b - 1 - t % 4))] ++ [[59]])
def ckL (m : cS) (M b : Nat) (KK : Nat → Nat → Nat) (B : Nat) : Nat → List (List Nat)
  | 0 => []
  | t + 1 => ckL m M b KK B t ++ (if B.testBit t = true then ckT m M b KK t else [])
/-- CHECKS of an ACT in both -/
def CKA (m c u : cS) (M i B : Nat) : Prop := B < 65536 ∧ c.1 126 (fa c M + i) = nI B ∧ ∀ o k, o < 4 → k < 4 → if B.testBit (4 * o + k) = true then (o < ocn m ∧ k < wnt m (40 * M + i) ∧ u.1 174 106 = nI 1 ∧ u.1 250 (16 * (40 * M + i) + (4 * o + k)) = nI (TM m c (wtp m M (40 * M + i) k) o)) else (u.1 174 106 = nI 1 → u.1 250 (16 * (40 * M + i) + (4 * o + k)) = nM)
theorem CKA_of {m c u : cS} {M i : Nat} (hG : PG c m) (h : CHK m c u) (hM : isMt m M) (hi : i < acn m M) : (u.1 174 106 = nI 0 ∨ (u.1 174 106 = nI 1 ∧ c.1 146 8 = nI 0)) ∧ ∃ B, CKA m c u M i B := by
  have hn40 := ((hG.2.2.2.1 M hM).1).1.2
  have ho4 := hG.1.1.1
  have hC := hG.1.2.2.1
  have hM96 := isMt_lt hC hM
  rcases h with ⟨h1, h2⟩ | ⟨h1, h8, LL, h2, h3, h4⟩
  · refine ⟨Or.inl h1, ?_⟩
    obtain ⟨B, b1, b2, b3⟩ := h2 M i hM hi
    refine ⟨B, b1, b2, fun o k ho hk => ?_⟩
    rw [if_neg (fun z => (b3 _ (by omega)).mp z)]
    intro z
    rw [h1] at z
    exact absurd z (by decide)
  · refine ⟨Or.inr ⟨h1, h8⟩, ?_⟩
    obtain ⟨B, b1, b2, b3⟩ := h3 M i hM hi
    refine ⟨B, b1, b2, fun o k ho hk => ?_⟩
    by_cases e : B.testBit (4 * o + k) = true
    · rw [if_pos e]
      obtain ⟨o', x, q1, q2, q3, q4, q5⟩ := (b3 _ (by omega)).mp e
      obtain ⟨p1, p2, p3, p4⟩ := h2 o' x q1 q2
      have hw4 := wnt_le hC (MTS_ac hG.2.2 p1 p2).2.2.2.2.2.2.1
      have ho' : o' = o := by omega
      have hk' : x.2.2.1 = k := by omega
      subst ho'
      have hv := h4.1 o' x q1 q2
      rw [p4] at hv
      rw [q3, q4, hk'] at p3 hv
      unfold ixx at hv
      rw [q3, q4, hk', show ((40 * M + i) * 4 + o') * 4 + k = 16 * (40 * M + i) + (4 * o' + k) by omega] at hv
      exact ⟨q1, p3, h1, hv⟩
    · rw [if_neg e]
      intro _
      refine h4.2 _ (by omega) (fun o' x q1 q2 z => e ((b3 _ (by omega)).mpr ⟨o', x, q1, q2, ?_⟩))
      obtain ⟨p1, p2, p3, p4⟩ := h2 o' x q1 q2
      have hw4 := wnt_le hC (MTS_ac hG.2.2 p1 p2).2.2.2.2.2.2.1
      have hx40 := ((hG.2.2.2.1 _ p1).1).1.2
      unfold ixx at z
      exact ⟨by omega, by omega, by omega⟩
section CO
variable {n M i B : Nat} {c m u : cS} {L : List Nat}
theorem e336 (hn : 1000 ≤ n) (hW : WT c) (hG : PG c m) (hT : TLS c m) (h8 : ∀ t, t < 16 → B.testBit t = true → c.1 146 8 = nI 0) (hF : FD m c u) (hM : isMt m M) (hi : i < acn m M) (hB : B < 65536) (h126 : c.1 126 (fa c M + i) = nI B) (hb : ∀ o k, o < 4 → k < 4 → B.testBit (4 * o + k) = true → o < ocn m ∧ k < wnt m (40 * M + i)) (h : OC c L) : wp (d_336 n (nI M) (nI (fa c M + i)) c) (fun d => OC d (puts L (ckL m M (40 * M + i) (fun o p => TM m c p o) B 16)) ∧ sx qO c d) := by
  have hC := hG.1.2.2.1
  have hM96 := isMt_lt hC hM
  have hmt := (hG.2.2.2.1 M hM).1
  have ha4 : fa c M + i < 1024 := by
    have := hmt.2.2.2.2.2.2.2.2
    omega
  have hn40 := hmt.1.2
  unfold d_336
  refine wpc (K' := fun d : cS => OC d (puts L (ckL m M (40 * M + i) (fun o p => TM m c p o) B 16)) ∧ sx qO c d) (whl_cnt (fun t (st : Int32 × cS) => st.1 = nI t ∧ OC st.2 (puts L (ckL m M (40 * M + i) (fun o p => TM m c p o) B t)) ∧ sx qO c st.2) 16 ?_ ?_ (by omega) ⟨rfl, h, sx_rfl⟩) (fun d hd => hd)
  · rintro t ⟨t0, w⟩ ht ⟨g1, g2, g3⟩
    dsimp only at g1 g2 g3
    subst g1
    dsimp only
    refine wpf (by simp (disch := first | omega | decide) only [↓neg1, nlit, rI, rL, rI2, rL1, nI_add, pk_mul, sbT, dvT, nmd, ixT, ↓ibT, ltT, ltF, leT, leF, eqT, eqF, nM_ltT, nM_ltF, nM_leT, nM_leF, nM_eqF, nM_eqF', nbT0, nbT1, oI_s, oI_n, natF, natT, nltT, nltF, nleT, nleF, ↓reduceIte, lgc, not_true_eq_false, not_false_eq_true, or_false, false_or, or_true, true_or, and_true, true_and, and_false, false_and, ne_eq, eq_self, or_self, and_self]) (wpt (by simp (disch := first | omega | decide) only [↓neg1, nlit, rI, rL, rI2, rL1, nI_add, pk_mul, sbT, dvT, nmd, ixT, ↓ibT, ltT, ltF, leT, leF, eqT, eqF, nM_ltT, nM_ltF, nM_leT, nM_leF, nM_eqF, nM_eqF', nbT0, nbT1, oI_s, oI_n, natF, natT, nltT, nltF, nleT, nleF, ↓reduceIte, lgc, not_true_eq_false, not_false_eq_true, or_false, false_or, or_true, true_or, and_true, true_and, and_false, false_and, ne_eq, eq_self, or_self, and_self]) ?_)
    rw [ix_n (by omega), g3.1 126 _ (qO_no (by omega)), h126]
    refine wpjQ (fun y : cS => OC y (puts L (ckL m M (40 * M + i) (fun o p => TM m c p o) B (t + 1))) ∧ sx qO c y) (fun y hy => wpl ⟨nI_1 _, hy.1, hy.2⟩) ?_
    intro Q' k' hk'
    by_cases e : B.testBit t = true
    · have hk2 : ckL m M (40 * M + i) (fun o p => TM m c p o) B (t + 1) = ckL m M (40 * M + i) (fun o p => TM m c p o) B t ++ ckT m M (40 * M + i) (fun o p => TM m c p o) t := by
        show _ ++ (if B.testBit t = true then _ else _) = _
        rw [if_pos e]
      rw [hk2, puts_app] at hk'
      have e' := e
      rw [show t = 4 * (t / 4) + t % 4 by omega] at e'
      obtain ⟨f1, f2⟩ := hb (t / 4) (t % 4) (by omega) (by omega) e'
      refine wpf (fun z => by rw [bit_n (by omega) (by omega)] at z; rw [e] at z; cases z) ?_
      rw [show nI t / 4 = nI (t / 4) from dvT (by omega) (by decide) (by decide), show nI t - nI (t / 4) * 4 = nI (t % 4) by
        rw [show (4 : Int32) = nI 4 from rfl, pk_mul, pk_sub (by omega)]
        congr 1
        omega]
      refine wpl (wpl ?_)
      have h351 : d_351 n 42 = some (pkN 42 (sB 42).length) := e351 hn (by decide +kernel) (by decide +kernel)
      refine wpe h351 (wpc (e320 hn g2) (fun d1 h1 => ?_))
      have s1 := sx_trans g3 h1.2
      have hG1 := PG_CA (CA_sx s1 nC_qO) hG
      have hT1 : TLS d1 m := by
        refine ⟨by rw [s1.1 146 8 (qO_no (by omega))]; exact hT.1, fun z p s o hp hs ho => ?_⟩
        rw [s1.1 146 8 (qO_no (by omega))] at z
        rw [s1.1 147 _ (qO_no (by omega))]
        exact hT.2 z p s o hp hs ho
      have hfd : ∀ p o, fdv d1 p o = fdv c p o := fun p o => congrArg ix (s1.1 148 _ (qO_no (by omega)))
      have hF1 : FD m d1 u := by
        intro p s o hP hs ho
        rw [hfd, s1.1 148 _ (qO_no (by omega))]
        exact hF p s o hP hs ho
      have hTM : ∀ p o, TM m d1 p o = TM m c p o := fun p o => by
        unfold TM
        rw [hfd]
      have hac := MTS_ac hG.2.2 hM hi
      refine wpe (e169 hG1.2.2 hG1.1.2.2.1 hM hi (by rw [FC_fa s1 nC_qO]) f2) ?_
      obtain ⟨s', hP, hs'⟩ := wtp_P hC hM hac.2.2.2.2.2.2.1 f2
      have h190 := e190 (n := n) hG1.1.1 hP hs' f1 (EC_row hG1.1 hP).1 ((s1.1 146 8 (qO_no (by omega))).trans (h8 t ht e)) hT1 hF1
      refine wpe h190.1 (wpc (e334 hn hG1.1.1 f1 h190.2 h1.1) (fun d2 h2 => ?_))
      have s2 := sx_trans s1 h2.2
      have hG2 := PG_CA (CA_sx s2 nC_qO) hG
      refine wpe (e168 hG2.2.2 hM hi (by rw [FC_fa s2 nC_qO])) ?_
      have hw4 := wnt_le hC hac.2.2.2.2.2.2.1
      rw [show nI (wnt m (40 * M + i)) - 1 - nI (t % 4) = nI (wnt m (40 * M + i) - 1 - t % 4) by
        rw [show nI (wnt m (40 * M + i)) - 1 = nI (wnt m (40 * M + i) - 1) from pk_sub (b := 1) (by omega), pk_sub (by omega)]]
      have hne : puts (put (puts L (ckL m M (40 * M + i) (fun o p => TM m c p o) B t)) (sg (pkN 42 (sB 42).length))) [sg (m.2 181 (t / 4)), [46], sg (m.2 183 (12 * (t / 4) + TM m d1 (wtp m M (40 * M + i) (t % 4)) (t / 4)))] ≠ [] := puts_ne (put_ne (Or.inr (by decide +kernel))) _
      refine wpc (e323i hn hne h2.1) (fun d3 h3 => wpc (e322 (b := 59) (by decide) h3.1) (fun d4 h4 => hk' d4 ⟨?_, sx_trans s2 (sx_trans h3.2 h4.2)⟩))
      have hfin := h4.1
      have hx0 : 0 ≤ nI (wnt m (40 * M + i) - 1 - t % 4) := nI_pos' (by omega)
      have hxn : natN (nI (wnt m (40 * M + i) - 1 - t % 4)) = wnt m (40 * M + i) - 1 - t % 4 := by
        unfold natN
        rw [nI_toInt (by omega)]
        omega
      unfold nt at hfin
      rw [if_pos hx0, hxn, hTM, show sg (pkN 42 (sB 42).length) = wb 35 by decide +kernel] at hfin
      exact hfin
    · have hk2 : ckL m M (40 * M + i) (fun o p => TM m c p o) B (t + 1) = ckL m M (40 * M + i) (fun o p => TM m c p o) B t := by
        show _ ++ (if B.testBit t = true then _ else _) = _
        rw [if_neg e, List.append_nil]
      rw [hk2] at hk'
      exact wpt ((bit_n (by omega) (by omega)).mpr (by simpa using e)) (hk' w ⟨g2, g3⟩)
  · rintro ⟨t0, w⟩ ⟨g1, g2, g3⟩
    dsimp only at g1 g2 g3
    subst g1
    exact wpt (by dsimp only; decide) ⟨g2, g3⟩
/-- how many CHECKS are written before an ACT -/
def ahd (Bf : Nat → Nat) (fl : Bool) : Nat → Nat
  | 0 => 0
  | t + 1 => ahd Bf fl t + (if fl = true then popK (Bf t) 16 else 0)
theorem ahd_le {Bf : Nat → Nat} {fl : Bool} : ∀ t, ahd Bf fl t ≤ 16 * t
  | 0 => Nat.le_refl _
  | t + 1 => by
    have h1 := ahd_le (Bf := Bf) (fl := fl) t
    have h2 := popK_le (B := Bf t) 16
    unfold ahd
    split <;> omega
theorem ahd_f {Bf : Nat → Nat} : ∀ t, ahd Bf false t = 0
  | 0 => rfl
  | t + 1 => by
    unfold ahd
    rw [ahd_f t]
    rfl
theorem e337 {t : Nat} {a3 : Int32} {Bf : Nat → Nat} (hn : 1000 ≤ n) (hM : M < 96) (h119 : c.1 119 M = nI (fa c M)) (ht : t ≤ 40) (hfa : fa c M + t ≤ 1024) (hB : ∀ s, s < t → Bf s < 65536 ∧ c.1 126 (fa c M + s) = nI (Bf s)) : d_337 n (nI M) (nI t) a3 c = some (nI (t + ahd Bf (decide (a3 ≠ 0)) t)) := by
  unfold d_337
  rw [if_neg (show ¬ nI t < 0 by simp (disch := first | omega | decide) only [↓neg1, nlit, rI, rL, rI2, rL1, nI_add, pk_mul, sbT, dvT, nmd, ixT, ↓ibT, ltT, ltF, leT, leF, eqT, eqF, nM_ltT, nM_ltF, nM_leT, nM_leF, nM_eqF, nM_eqF', nbT0, nbT1, oI_s, oI_n, natF, natT, nltT, nltF, nleT, nleF, ↓reduceIte, lgc, not_true_eq_false, not_false_eq_true, or_false, false_or, or_true, true_or, and_true, true_and, and_false, false_and, ne_eq, eq_self, or_self, and_self])]
  refine eq_wp (wpl ?_)
  refine wpc (K' := fun r : Int32 => r = nI (t + ahd Bf (decide (a3 ≠ 0)) t)) (whl_cnt (fun k (st : Int32 × Int32) => st.1 = nI (t + ahd Bf (decide (a3 ≠ 0)) k) ∧ st.2 = nI k) t ?_ ?_ (by omega) ⟨rfl, rfl⟩) (fun d hd => hd)
  · rintro k ⟨p, q⟩ hk ⟨g1, g2⟩
    dsimp only at g1 g2
    subst g1 g2
    dsimp only
    refine wpf (by simp (disch := first | omega | decide) only [↓neg1, nlit, rI, rL, rI2, rL1, nI_add, pk_mul, sbT, dvT, nmd, ixT, ↓ibT, ltT, ltF, leT, leF, eqT, eqF, nM_ltT, nM_ltF, nM_leT, nM_leF, nM_eqF, nM_eqF', nbT0, nbT1, oI_s, oI_n, natF, natT, nltT, nltF, nleT, nleF, ↓reduceIte, lgc, not_true_eq_false, not_false_eq_true, or_false, false_or, or_true, true_or, and_true, true_and, and_false, false_and, ne_eq, eq_self, or_self, and_self]) ?_
    by_cases e : a3 = 0
    · refine wpt e ?_
      show nI _ = nI _
      rw [decide_eq_false (fun z => z e), ahd_f, ahd_f]
    · refine wpf e (wpt (by simp (disch := first | omega | decide) only [↓neg1, nlit, rI, rL, rI2, rL1, nI_add, pk_mul, sbT, dvT, nmd, ixT, ↓ibT, ltT, ltF, leT, leF, eqT, eqF, nM_ltT, nM_ltF, nM_leT, nM_leF, nM_eqF, nM_eqF', nbT0, nbT1, oI_s, oI_n, natF, natT, nltT, nltF, nleT, nleF, ↓reduceIte, lgc, not_true_eq_false, not_false_eq_true, or_false, false_or, or_true, true_or, and_true, true_and, and_false, false_and, ne_eq, eq_self, or_self, and_self]) ?_)
      rw [ix_n (by omega), h119, nI_add]
      refine wpt (by simp (disch := first | omega | decide) only [↓neg1, nlit, rI, rL, rI2, rL1, nI_add, pk_mul, sbT, dvT, nmd, ixT, ↓ibT, ltT, ltF, leT, leF, eqT, eqF, nM_ltT, nM_ltF, nM_leT, nM_leF, nM_eqF, nM_eqF', nbT0, nbT1, oI_s, oI_n, natF, natT, nltT, nltF, nleT, nleF, ↓reduceIte, lgc, not_true_eq_false, not_false_eq_true, or_false, false_or, or_true, true_or, and_true, true_and, and_false, false_and, ne_eq, eq_self, or_self, and_self]) ?_
      rw [ix_n (by omega), (hB k hk).2]
      refine wpe (e482 (hB k hk).1) (wpl (wpl ⟨?_, nI_1 _⟩))
      dsimp only
      rw [nI_add]
      show _ = nI (t + (ahd Bf (decide (a3 ≠ 0)) k + (if decide (a3 ≠ 0) = true then popK (Bf k) 16 else 0)))
      rw [if_pos (decide_eq_true e)]
      congr 1
      omega
  · rintro ⟨p, q⟩ ⟨g1, g2⟩
    dsimp only at g1 g2
    subst g1 g2
    dsimp only
    exact wpt (by simp (disch := first | omega | decide) only [↓neg1, nlit, rI, rL, rI2, rL1, nI_add, pk_mul, sbT, dvT, nmd, ixT, ↓ibT, ltT, ltF, leT, leF, eqT, eqF, nM_ltT, nM_ltF, nM_leT, nM_leF, nM_eqF, nM_eqF', nbT0, nbT1, oI_s, oI_n, natF, natT, nltT, nltF, nleT, nleF, ↓reduceIte, lgc, not_true_eq_false, not_false_eq_true, or_false, false_or, or_true, true_or, and_true, true_and, and_false, false_and, ne_eq, eq_self, or_self, and_self]) rfl
theorem e464 {b : Nat} (hn : 1000 ≤ n) (hb : b < 3840) (ho4 : ocn m ≤ 4) (hck : (u.1 174 106 = nI 0 ∧ ∀ t, t < 16 → B.testBit t = false) ∨ (u.1 174 106 = nI 1 ∧ ∀ t, t < 16 → (u.1 250 (16 * b + t) < 0 ↔ B.testBit t = false))) : d_464 n (nI b) u = some (nI (popK B 16)) := by
  unfold d_464
  refine eq_wp ?_
  refine wpc (K' := fun r : Int32 => r = nI (popK B 16)) (whl_cnt (fun k (st : Int32 × Int32) => st.1 = nI (popK B k) ∧ st.2 = nI k) 16 ?_ ?_ (by omega) ⟨rfl, rfl⟩) (fun d hd => hd)
  · rintro k ⟨p, q⟩ hk ⟨g1, g2⟩
    dsimp only at g1 g2
    subst g1 g2
    dsimp only
    refine wpf (by simp (disch := first | omega | decide) only [↓neg1, nlit, rI, rL, rI2, rL1, nI_add, pk_mul, sbT, dvT, nmd, ixT, ↓ibT, ltT, ltF, leT, leF, eqT, eqF, nM_ltT, nM_ltF, nM_leT, nM_leF, nM_eqF, nM_eqF', nbT0, nbT1, oI_s, oI_n, natF, natT, nltT, nltF, nleT, nleF, ↓reduceIte, lgc, not_true_eq_false, not_false_eq_true, or_false, false_or, or_true, true_or, and_true, true_and, and_false, false_and, ne_eq, eq_self, or_self, and_self]) ?_
    rcases hck with ⟨h6, hz⟩ | ⟨h6, hz⟩
    · refine wpt h6 ?_
      have hp : ∀ t, t ≤ 16 → popK B t = 0 := by
        intro t
        induction t with
        | zero => exact fun _ => rfl
        | succ t ih =>
          intro h16
          unfold popK
          rw [ih (by omega), hz t (by omega)]
          rfl
      show nI _ = nI _
      rw [hp k (by omega), hp 16 (by omega)]
    · refine wpf (by rw [h6]; decide) ?_
      rw [show (16 : Int32) * nI b + nI k = nI (16 * b + k) by rw [show (16 : Int32) = nI 16 from rfl, pk_mul, nI_add]]
      refine wpt (by simp (disch := first | omega | decide) only [↓neg1, nlit, rI, rL, rI2, rL1, nI_add, pk_mul, sbT, dvT, nmd, ixT, ↓ibT, ltT, ltF, leT, leF, eqT, eqF, nM_ltT, nM_ltF, nM_leT, nM_leF, nM_eqF, nM_eqF', nbT0, nbT1, oI_s, oI_n, natF, natT, nltT, nltF, nleT, nleF, ↓reduceIte, lgc, not_true_eq_false, not_false_eq_true, or_false, false_or, or_true, true_or, and_true, true_and, and_false, false_and, ne_eq, eq_self, or_self, and_self]) ?_
      rw [ix_n (by omega)]
      refine wpj ?_
      by_cases e : B.testBit k = true
      · refine wpf (fun z => by rw [hz k hk, e] at z; cases z) (wpl (wpl ⟨?_, nI_1 _⟩))
        show nI (popK B k) + 1 = nI (popK B k + (if B.testBit k = true then 1 else 0))
        rw [if_pos e, nI_1]
      · refine wpt ((hz k hk).mpr (by simpa using e)) (wpl (wpl ⟨?_, nI_1 _⟩))
        show nI (popK B k) + 0 = nI (popK B k + (if B.testBit k = true then 1 else 0))
        rw [if_neg e]
        exact nI_add _ 0
  · rintro ⟨p, q⟩ ⟨g1, g2⟩
    dsimp only at g1 g2
    subst g1 g2
    exact wpt (by dsimp only; decide) rfl
theorem e465 {t : Nat} {a3 : Int32} {Bf : Nat → Nat} (hn : 1000 ≤ n) (hM : M < 96) (ht : t ≤ 40) (hB : ∀ s, s < t → d_464 n (nI (40 * M + s)) u = some (nI (popK (Bf s) 16))) : d_465 n (nI M) (nI t) a3 u = some (nI (t + ahd Bf (decide (a3 ≠ 0)) t)) := by
  unfold d_465
  refine eq_wp ?_
  refine wpc (K' := fun r : Int32 => r = nI (t + ahd Bf (decide (a3 ≠ 0)) t)) (whl_cnt (fun k (st : Int32 × Int32) => st.1 = nI (t + ahd Bf (decide (a3 ≠ 0)) k) ∧ st.2 = nI k) t ?_ ?_ (by omega) ⟨rfl, rfl⟩) (fun d hd => hd)
  · rintro k ⟨p, q⟩ hk ⟨g1, g2⟩
    dsimp only at g1 g2
    subst g1 g2
    dsimp only
    refine wpf (by simp (disch := first | omega | decide) only [↓neg1, nlit, rI, rL, rI2, rL1, nI_add, pk_mul, sbT, dvT, nmd, ixT, ↓ibT, ltT, ltF, leT, leF, eqT, eqF, nM_ltT, nM_ltF, nM_leT, nM_leF, nM_eqF, nM_eqF', nbT0, nbT1, oI_s, oI_n, natF, natT, nltT, nltF, nleT, nleF, ↓reduceIte, lgc, not_true_eq_false, not_false_eq_true, or_false, false_or, or_true, true_or, and_true, true_and, and_false, false_and, ne_eq, eq_self, or_self, and_self]) ?_
    by_cases e : a3 = 0
    · refine wpt e ?_
      show nI _ = nI _
      rw [decide_eq_false (fun z => z e), ahd_f, ahd_f]
    · refine wpf e ?_
      rw [show (40 : Int32) * nI M + nI k = nI (40 * M + k) by rw [show (40 : Int32) = nI 40 from rfl, pk_mul, nI_add]]
      refine wpe (hB k hk) (wpl (wpl ⟨?_, nI_1 _⟩))
      dsimp only
      rw [nI_add]
      show _ = nI (t + (ahd Bf (decide (a3 ≠ 0)) k + (if decide (a3 ≠ 0) = true then popK (Bf k) 16 else 0)))
      rw [if_pos (decide_eq_true e)]
      congr 1
      omega
  · rintro ⟨p, q⟩ ⟨g1, g2⟩
    dsimp only at g1 g2
    subst g1 g2
    dsimp only
    exact wpt (by simp (disch := first | omega | decide) only [↓neg1, nlit, rI, rL, rI2, rL1, nI_add, pk_mul, sbT, dvT, nmd, ixT, ↓ibT, ltT, ltF, leT, leF, eqT, eqF, nM_ltT, nM_ltF, nM_leT, nM_leF, nM_eqF, nM_eqF', nbT0, nbT1, oI_s, oI_n, natF, natT, nltT, nltF, nleT, nleF, ↓reduceIte, lgc, not_true_eq_false, not_false_eq_true, or_false, false_or, or_true, true_or, and_true, true_and, and_false, false_and, ne_eq, eq_self, or_self, and_self]) rfl
end CO
/-- the CODE of a METHOD in TOKENS -/
def cdn (m : cS) (M : Nat) (Bf : Nat → Nat) (fl : Bool) (i : Nat) : Nat := if isL m (40 * M + i) = true then lbT m (40 * M + i) + ahd Bf fl (lbT m (40 * M + i)) else 0
def cdA (m : cS) (M : Nat) (KK : Nat → Nat → Nat) (Bf : Nat → Nat) (fl : Bool) (i : Nat) : List (List Nat) := (if fl = true then ckL m M (40 * M + i) KK (Bf i) 16 else []) ++ ([wb (2 + opn m (40 * M + i))] ++ opT m M (40 * M + i) ++ lbK m M (40 * M + i) (some (cdn m M Bf fl i)) ++ [[59]])
def cdT (m : cS) (M : Nat) (KK : Nat → Nat → Nat) (Bf : Nat → Nat) (fl : Bool) : Nat → List (List Nat)
  | 0 => []
  | i + 1 => cdT m M KK Bf fl i ++ cdA m M KK Bf fl i
theorem lbT_lt {c m : cS} {M i : Nat} (hG : PG c m) (hM : isMt m M) (hi : i < acn m M) (hl : isL m (40 * M + i) = true) : m.1 216 (40 * M + i) = nI (lbT m (40 * M + i)) ∧ lbT m (40 * M + i) < acn m M := by
  have hac := MTS_ac hG.2.2 hM hi
  obtain ⟨t', l1, l2, -⟩ := hac.2.2.2.2.2.2.1.2.2.2.2.2.2.1 (of_decide_eq_true hl)
  have hn40 := ((hG.2.2.2.1 M hM).1).1.2
  have : lbT m (40 * M + i) = t' := by
    unfold lbT
    rw [l2, ix_n (by omega)]
  rw [this]
  exact ⟨l2, l1⟩
theorem lbT_no {c m : cS} {M i : Nat} (hG : PG c m) (hM : isMt m M) (hi : i < acn m M) (hl : ¬ isL m (40 * M + i) = true) : m.1 216 (40 * M + i) = nM := (MTS_ac hG.2.2 hM hi).2.2.2.2.2.2.1.2.2.2.2.2.2.2 ⟨fun z => hl (decide_eq_true (Or.inl z)), fun z => hl (decide_eq_true (Or.inr (Or.inl z))), fun z => hl (decide_eq_true (Or.inr (Or.inr z)))⟩
/-- what CODE stands on -/
def CDB (m c u : cS) (M : Nat) (Bf : Nat → Nat) : Prop := PG c m ∧ TLS c m ∧ FD m c u ∧ isMt m M ∧ (u.1 174 106 = nI 0 ∨ (u.1 174 106 = nI 1 ∧ c.1 146 8 = nI 0)) ∧ ∀ i, i < acn m M → CKA m c u M i (Bf i)
theorem e335 {n M : Nat} {a2 : Int32} {Bf : Nat → Nat} {c m u : cS} (hn : 1000 ≤ n) (hW : WT c) (hD : CDB m c u M Bf) : wp (d_335 n (nI M) a2 c) (fun r => r.1 = nI (min (puts [] (cdT m M (fun o p => TM m c p o) Bf (decide (a2 ≠ 0)) (acn m M))).length 8000) ∧ OC r.2 (puts [] (cdT m M (fun o p => TM m c p o) Bf (decide (a2 ≠ 0)) (acn m M))) ∧ sx qO c r.2) := by
  obtain ⟨hG, hT, hF, hM, h6, hB⟩ := hD
  have hC := hG.1.2.2.1
  have hM96 := isMt_lt hC hM
  have hmt := (hG.2.2.2.1 M hM).1
  have hF1 := hmt.2.2.2.2.2.2.2.2
  have h119 := hmt.2.2.2.2.2.2.2.1
  have h120 := hmt.2.2.1
  have hn40 := hmt.1.2
  unfold d_335
  refine wpl ?_
  have s0 : sx qO c (pI c 172 1 0) := sx_pI sx_rfl rfl
  have o0 : OC (pI c 172 1 0) [] := OC_nil (by rw [rI, if_pos ⟨rfl, rfl⟩]; rfl)
  refine wpc (K' := fun d : cS => OC d (puts [] (cdT m M (fun o p => TM m c p o) Bf (decide (a2 ≠ 0)) (acn m M))) ∧ sx qO c d) (whl_cnt (fun i (st : Int32 × cS) => st.1 = nI i ∧ OC st.2 (puts [] (cdT m M (fun o p => TM m c p o) Bf (decide (a2 ≠ 0)) i)) ∧ sx qO c st.2) (acn m M) ?_ ?_ (by omega) ⟨rfl, o0, s0⟩) (fun d hd => ⟨hd.1.1, hd.1, hd.2⟩)
  · rintro i ⟨i0, w⟩ hi ⟨g1, g2, g3⟩
    dsimp only at g1 g2 g3
    subst g1
    dsimp only
    have R1 : ∀ {y : cS}, sx qO c y → ∀ A i, A ≠ 172 → A ≠ 173 → y.1 A i = c.1 A i := fun hy A i h1 h2 => hy.1 A i (qO_no (by omega))
    refine wpt (by simp (disch := first | omega | decide) only [↓neg1, nlit, rI, rL, rI2, rL1, nI_add, pk_mul, sbT, dvT, nmd, ixT, ↓ibT, ltT, ltF, leT, leF, eqT, eqF, nM_ltT, nM_ltF, nM_leT, nM_leF, nM_eqF, nM_eqF', nbT0, nbT1, oI_s, oI_n, natF, natT, nltT, nltF, nleT, nleF, ↓reduceIte, lgc, not_true_eq_false, not_false_eq_true, or_false, false_or, or_true, true_or, and_true, true_and, and_false, false_and, ne_eq, eq_self, or_self, and_self]) ?_
    rw [ix_n (by omega), R1 g3 120 M (by decide) (by decide), h120]
    refine wpf (by simp (disch := first | omega | decide) only [↓neg1, nlit, rI, rL, rI2, rL1, nI_add, pk_mul, sbT, dvT, nmd, ixT, ↓ibT, ltT, ltF, leT, leF, eqT, eqF, nM_ltT, nM_ltF, nM_leT, nM_leF, nM_eqF, nM_eqF', nbT0, nbT1, oI_s, oI_n, natF, natT, nltT, nltF, nleT, nleF, ↓reduceIte, lgc, not_true_eq_false, not_false_eq_true, or_false, false_or, or_true, true_or, and_true, true_and, and_false, false_and, ne_eq, eq_self, or_self, and_self]) (wpt (by simp (disch := first | omega | decide) only [↓neg1, nlit, rI, rL, rI2, rL1, nI_add, pk_mul, sbT, dvT, nmd, ixT, ↓ibT, ltT, ltF, leT, leF, eqT, eqF, nM_ltT, nM_ltF, nM_leT, nM_leF, nM_eqF, nM_eqF', nbT0, nbT1, oI_s, oI_n, natF, natT, nltT, nltF, nleT, nleF, ↓reduceIte, lgc, not_true_eq_false, not_false_eq_true, or_false, false_or, or_true, true_or, and_true, true_and, and_false, false_and, ne_eq, eq_self, or_self, and_self]) ?_)
    rw [R1 g3 119 M (by decide) (by decide), h119, nI_add]
    refine wpl ?_
    obtain ⟨b1, b2, b3⟩ := hB i hi
    refine wpjQ (fun y : cS => OC y (puts (puts [] (cdT m M (fun o p => TM m c p o) Bf (decide (a2 ≠ 0)) i)) (if decide (a2 ≠ 0) = true then ckL m M (40 * M + i) (fun o p => TM m c p o) (Bf i) 16 else [])) ∧ sx qO c y) ?_ ?_
    · rintro y ⟨y1, y2⟩
      refine wpt (by simp (disch := first | omega | decide) only [↓neg1, nlit, rI, rL, rI2, rL1, nI_add, pk_mul, sbT, dvT, nmd, ixT, ↓ibT, ltT, ltF, leT, leF, eqT, eqF, nM_ltT, nM_ltF, nM_leT, nM_leF, nM_eqF, nM_eqF', nbT0, nbT1, oI_s, oI_n, natF, natT, nltT, nltF, nleT, nleF, ↓reduceIte, lgc, not_true_eq_false, not_false_eq_true, or_false, false_or, or_true, true_or, and_true, true_and, and_false, false_and, ne_eq, eq_self, or_self, and_self]) ?_
      have hGy := PG_CA (CA_sx y2 nC_qO) hG
      have hfy : fa y M = fa c M := FC_fa y2 nC_qO
      have hacy := MTS_ac hGy.2.2 hM hi
      have h124 := hacy.2.2.2.2.1
      rw [hfy] at h124
      rw [ix_n (by omega), h124]
      have h337 : d_337 n (nI M) (m.1 216 (40 * M + i)) a2 y = some (nI (cdn m M Bf (decide (a2 ≠ 0)) i)) := by
        unfold cdn
        by_cases hl : isL m (40 * M + i) = true
        · obtain ⟨l1, l2⟩ := lbT_lt hG hM hi hl
          rw [l1, if_pos hl]
          refine e337 hn hM96 (by rw [hfy]; exact (R1 y2 119 M (by decide) (by decide)).trans h119) (by omega) (by rw [hfy]; omega) (fun s hs => ?_)
          rw [hfy, R1 y2 126 _ (by decide) (by decide)]
          obtain ⟨p1, p2, -⟩ := hB s (by omega)
          exact ⟨p1, p2⟩
        · rw [lbT_no hG hM hi hl, if_neg hl]
          unfold d_337
          rw [if_pos (show nM < 0 by decide)]
          refine eq_wp (wpl ?_)
          refine wpc (K' := fun r : Int32 => r = nI 0) (whl_cnt (fun k (st : Int32 × Int32) => st = (0, 0)) 0 (fun k s hk => by omega) ?_ (by omega) rfl) (fun d hd => hd)
          rintro st rfl
          exact wpt (by decide) rfl
      have hcd : cdn m M Bf (decide (a2 ≠ 0)) i < 10 ^ 9 := by
        unfold cdn
        by_cases hl : isL m (40 * M + i) = true
        · rw [if_pos hl]
          have := (lbT_lt hG hM hi hl).2
          have := ahd_le (Bf := Bf) (fl := decide (a2 ≠ 0)) (lbT m (40 * M + i))
          omega
        · rw [if_neg hl]
          decide
      have h333 := e333 (n := n) (t := some (cdn m M Bf (decide (a2 ≠ 0)) i)) (by omega) (WT_sx hW y2 (fun i => qO_no (by omega))) hGy hM hi (fun k hk => by cases hk; exact hcd) y1
      rw [hfy, show preT m (40 * M + i) (some (cdn m M Bf (decide (a2 ≠ 0)) i)) = [] from if_neg (fun z => by cases z.1), List.nil_append] at h333
      refine wpe h337 (wpc h333 (fun d hd => wpl ⟨nI_1 _, ?_, sx_trans y2 hd.2⟩))
      have hfin := hd.1
      rw [← puts_app, ← puts_app] at hfin
      exact hfin
    · intro Q' k' hk'
      by_cases e : a2 = 0
      · refine wpt e (hk' w ⟨?_, g3⟩)
        rw [if_neg (by rw [decide_eq_true_iff]; exact fun z => z e)]
        exact g2
      · refine wpf e ?_
        have hfw : fa w M = fa c M := FC_fa g3 nC_qO
        have hfd : ∀ p o, fdv w p o = fdv c p o := fun p o => congrArg ix (R1 g3 148 _ (by decide) (by decide))
        have hTM : (fun o p => TM m w p o) = (fun o p => TM m c p o) := by
          funext o p
          unfold TM
          rw [hfd]
        have hTw : TLS w m := by
          refine ⟨by rw [R1 g3 146 8 (by decide) (by decide)]; exact hT.1, fun z p s o hp hs ho => ?_⟩
          rw [R1 g3 146 8 (by decide) (by decide)] at z
          rw [R1 g3 147 _ (by decide) (by decide)]
          exact hT.2 z p s o hp hs ho
        have hFw : FD m w u := by
          intro p s o hP hs ho
          rw [hfd, R1 g3 148 _ (by decide) (by decide)]
          exact hF p s o hP hs ho
        have hbb : ∀ o k, o < 4 → k < 4 → (Bf i).testBit (4 * o + k) = true → o < ocn m ∧ k < wnt m (40 * M + i) ∧ u.1 174 106 = nI 1 := by
          intro o k ho hk hb
          have := b3 o k ho hk
          rw [if_pos hb] at this
          exact ⟨this.1, this.2.1, this.2.2.1⟩
        have h336 := e336 (n := n) (u := u) hn (WT_sx hW g3 (fun i => qO_no (by omega))) (PG_CA (CA_sx g3 nC_qO) hG) hTw (fun t ht hb => by
          rw [R1 g3 146 8 (by decide) (by decide)]
          rw [show t = 4 * (t / 4) + t % 4 by omega] at hb
          have := (hbb (t / 4) (t % 4) (by omega) (by omega) hb).2.2
          rcases h6 with h6 | h6
          · rw [h6] at this
            exact absurd this (by decide)
          · exact h6.2) hFw hM hi b1 (by rw [hfw, R1 g3 126 _ (by decide) (by decide)]; exact b2) (fun o k ho hk hb => ⟨(hbb o k ho hk hb).1, (hbb o k ho hk hb).2.1⟩) g2
        rw [hTM, hfw] at h336
        refine wpc h336 (fun d hd => hk' d ⟨?_, sx_trans g3 hd.2⟩)
        rw [if_pos (decide_eq_true e)]
        exact hd.1
  · rintro ⟨i0, w⟩ ⟨g1, g2, g3⟩
    dsimp only at g1 g2 g3
    subst g1
    dsimp only
    refine wpt (by simp (disch := first | omega | decide) only [↓neg1, nlit, rI, rL, rI2, rL1, nI_add, pk_mul, sbT, dvT, nmd, ixT, ↓ibT, ltT, ltF, leT, leF, eqT, eqF, nM_ltT, nM_ltF, nM_leT, nM_leF, nM_eqF, nM_eqF', nbT0, nbT1, oI_s, oI_n, natF, natT, nltT, nltF, nleT, nleF, ↓reduceIte, lgc, not_true_eq_false, not_false_eq_true, or_false, false_or, or_true, true_or, and_true, true_and, and_false, false_and, ne_eq, eq_self, or_self, and_self]) ?_
    rw [ix_n (by omega), g3.1 120 M (qO_no (by omega)), h120]
    exact wpt (by simp (disch := first | omega | decide) only [↓neg1, nlit, rI, rL, rI2, rL1, nI_add, pk_mul, sbT, dvT, nmd, ixT, ↓ibT, ltT, ltF, leT, leF, eqT, eqF, nM_ltT, nM_ltF, nM_leT, nM_leF, nM_eqF, nM_eqF', nbT0, nbT1, oI_s, oI_n, natF, natT, nltT, nltF, nleT, nleF, ↓reduceIte, lgc, not_true_eq_false, not_false_eq_true, or_false, false_or, or_true, true_or, and_true, true_and, and_false, false_and, ne_eq, eq_self, or_self, and_self]) ⟨g2, g3⟩
theorem ckL_stop {m : cS} {M b B a : Nat} {KK : Nat → Nat → Nat} : ∀ d, (∀ t, a ≤ t → t < a + d → B.testBit t = false) → ckL m M b KK B (a + d) = ckL m M b KK B a
  | 0, _ => rfl
  | d + 1, h => by
    show ckL m M b KK B (a + d) ++ (if B.testBit (a + d) = true then _ else _) = _
    rw [h (a + d) (by omega) (by omega), if_neg (by decide), List.append_nil]
    exact ckL_stop d (fun t h1 h2 => h t h1 (by omega))
/-- the CHECKS before an ACT, by the reference -/
theorem ck_r {n M i B : Nat} {a2 : Int32} {c m u : cS} {L : List Nat} (hn : 2000 ≤ n) (hA : AG m u) (hG : PG c m) (hM : isMt m M) (hi : i < acn m M) (h6 : u.1 174 106 = nI 0 ∨ u.1 174 106 = nI 1) (hB : CKA m c u M i B) (hK : ∀ p s o, isP m p s → 1 ≤ s → o < ocn m → u.1 174 106 = nI 1 → TM m c p o < eln m o) (h : OG u L) : wp (whl (R := (cS)) (fun s17 : Int32 × cS =>
          if (s17.2.1 174 15) ≤ s17.1 then
            some (.inr s17.2)
          else
            if a2 = 0 then
              some (.inr s17.2)
            else
              if (s17.2.1 174 106) = 0 then
                some (.inr s17.2)
              else
                Option.bind (whl (R := (cS)) (fun s19 : Int32 × cS =>
                  if 4 ≤ s19.1 then
                    some (.inr s19.2)
                  else
                    Option.bind (d_463 n (nI (40 * M + i)) s17.1 s19.1) (fun v20 =>
                    if ib v20 61440 then
                    jn (fun p22 : cS =>
                      lt (s19.1 + 1 : Int32) (fun v24 =>
                      some (.inl (v24, p22))))
                    (fun j152 =>
                    if 0 ≤ (s19.2.1 250 (ix v20)) then
                      Option.bind (d_362 n 35 s19.2) (fun r26 =>
                      Option.bind (d_463 n (nI (40 * M + i)) s17.1 s19.1) (fun v27 =>
                      if ib v27 61440 then
                      Option.bind (d_448 n s17.1 (r26.1 250 (ix v27)) r26) (fun r29 =>
                      Option.bind (d_459 n (nI (40 * M + i)) s19.1 r29) (fun v30 =>
                      Option.bind (d_364 n ((v30 : Int32).toInt64) r29) (fun r31 =>
                      Option.bind (d_362 n 34 r31) (fun r32 =>
                      j152 r32))))
                      else none))
                    else
                      j152 s19.2)
                    else none)) n (0, s17.2))
                (fun x33 : cS =>
                  lt (s17.1 + 1 : Int32) (fun v35 =>
                  some (.inl (v35, x33))))) n (0, u)) (fun d => OG d (puts L (if decide (a2 ≠ 0) = true then ckL m M (40 * M + i) (fun o p => TM m c p o) B 16 else [])) ∧ sx pG u d) := by
  have hC := hG.1.2.2.1
  have hM96 := isMt_lt hC hM
  have hn40 := ((hG.2.2.2.1 M hM).1).1.2
  have ho4 := hG.1.1.1
  have h15 : u.1 174 15 = nI (ocn m) := (hA.2.2.1 15 rfl).trans hG.1.1.2.2.1
  have hac := MTS_ac hG.2.2 hM hi
  obtain ⟨b1, b2, b3⟩ := hB
  have hstop : ckL m M (40 * M + i) (fun o p => TM m c p o) B 16 = ckL m M (40 * M + i) (fun o p => TM m c p o) B (4 * ocn m) := by
    have := ckL_stop (m := m) (M := M) (b := 40 * M + i) (KK := fun o p => TM m c p o) (B := B) (a := 4 * ocn m) (16 - 4 * ocn m) (fun t h1 h2 => by
      have hb := b3 (t / 4) (t % 4) (by omega) (by omega)
      rw [show 4 * (t / 4) + t % 4 = t by omega] at hb
      by_cases e : B.testBit t = true
      · rw [if_pos e] at hb
        have := hb.1
        omega
      · simpa using e)
    rwa [show 4 * ocn m + (16 - 4 * ocn m) = 16 by omega] at this
  refine whl_cnt (fun o (st : Int32 × cS) => st.1 = nI o ∧ o ≤ ocn m ∧ ((a2 = 0 ∨ u.1 174 106 = nI 0) → o = 0) ∧ OG st.2 (puts L (ckL m M (40 * M + i) (fun o p => TM m c p o) B (4 * o))) ∧ sx pG u st.2) (ocn m) ?_ ?_ (by omega) ⟨rfl, by omega, fun _ => rfl, h, sx_rfl⟩
  · rintro o ⟨o0, w⟩ ho ⟨g1, g2, g3, g4, g5⟩
    dsimp only at g1 g2 g3 g4 g5
    subst g1
    dsimp only
    rw [g5.1 174 15 rfl, h15, g5.1 174 106 rfl]
    refine wpf (by simp (disch := first | omega | decide) only [↓neg1, nlit, rI, rL, rI2, rL1, nI_add, pk_mul, sbT, dvT, nmd, ixT, ↓ibT, ltT, ltF, leT, leF, eqT, eqF, nM_ltT, nM_ltF, nM_leT, nM_leF, nM_eqF, nM_eqF', nbT0, nbT1, oI_s, oI_n, natF, natT, nltT, nltF, nleT, nleF, ↓reduceIte, lgc, not_true_eq_false, not_false_eq_true, or_false, false_or, or_true, true_or, and_true, true_and, and_false, false_and, ne_eq, eq_self, or_self, and_self]) ?_
    by_cases e : a2 = 0
    · refine wpt e ?_
      have := g3 (Or.inl e)
      subst this
      refine ⟨?_, g5⟩
      rw [if_neg (by rw [decide_eq_true_iff]; exact fun z => z e)]
      exact g4
    refine wpf e ?_
    rcases h6 with h6 | h6
    · refine wpt h6 ?_
      have := g3 (Or.inr h6)
      subst this
      refine ⟨?_, g5⟩
      rw [if_pos (decide_eq_true e)]
      have hz := ckL_stop (m := m) (M := M) (b := 40 * M + i) (KK := fun o p => TM m c p o) (B := B) (a := 0) 16 (fun t h1 h2 => by
        have hb := b3 (t / 4) (t % 4) (by omega) (by omega)
        rw [show 4 * (t / 4) + t % 4 = t by omega] at hb
        by_cases e : B.testBit t = true
        · rw [if_pos e, h6] at hb
          exact absurd hb.2.2.1 (by decide)
        · simpa using e)
      rw [Nat.zero_add] at hz
      rw [hz]
      exact g4
    refine wpf (by rw [h6]; decide) ?_
    refine wpc (K' := fun d : cS => OG d (puts L (ckL m M (40 * M + i) (fun o p => TM m c p o) B (4 * o + 4))) ∧ sx pG u d) (whl_cnt (fun k (st : Int32 × cS) => st.1 = nI k ∧ OG st.2 (puts L (ckL m M (40 * M + i) (fun o p => TM m c p o) B (4 * o + k))) ∧ sx pG u st.2) 4 ?_ ?_ (by omega) ⟨rfl, g4, g5⟩) ?_
    · rintro k ⟨k0, x⟩ hk ⟨q1, q2, q3⟩
      dsimp only at q1 q2 q3
      subst q1
      dsimp only
      have h463 : d_463 n (nI (40 * M + i)) (nI o) (nI k) = some (nI (16 * (40 * M + i) + (4 * o + k))) := by
        unfold d_463
        rw [show (4 : Int32) = nI 4 from rfl, pk_mul, nI_add, pk_mul, nI_add]
        congr 2
        omega
      refine wpf (by simp (disch := first | omega | decide) only [↓neg1, nlit, rI, rL, rI2, rL1, nI_add, pk_mul, sbT, dvT, nmd, ixT, ↓ibT, ltT, ltF, leT, leF, eqT, eqF, nM_ltT, nM_ltF, nM_leT, nM_leF, nM_eqF, nM_eqF', nbT0, nbT1, oI_s, oI_n, natF, natT, nltT, nltF, nleT, nleF, ↓reduceIte, lgc, not_true_eq_false, not_false_eq_true, or_false, false_or, or_true, true_or, and_true, true_and, and_false, false_and, ne_eq, eq_self, or_self, and_self]) (wpe h463 (wpt (by simp (disch := first | omega | decide) only [↓neg1, nlit, rI, rL, rI2, rL1, nI_add, pk_mul, sbT, dvT, nmd, ixT, ↓ibT, ltT, ltF, leT, leF, eqT, eqF, nM_ltT, nM_ltF, nM_leT, nM_leF, nM_eqF, nM_eqF', nbT0, nbT1, oI_s, oI_n, natF, natT, nltT, nltF, nleT, nleF, ↓reduceIte, lgc, not_true_eq_false, not_false_eq_true, or_false, false_or, or_true, true_or, and_true, true_and, and_false, false_and, ne_eq, eq_self, or_self, and_self]) ?_))
      rw [ix_n (by omega), q3.1 250 _ rfl]
      refine wpjQ (fun y : cS => OG y (puts L (ckL m M (40 * M + i) (fun o p => TM m c p o) B (4 * o + (k + 1)))) ∧ sx pG u y) (fun y hy => wpl ⟨nI_1 _, hy.1, hy.2⟩) ?_
      intro Q' k' hk'
      have hb := b3 o k (by omega) hk
      have hsh : ckL m M (40 * M + i) (fun o p => TM m c p o) B (4 * o + (k + 1)) = ckL m M (40 * M + i) (fun o p => TM m c p o) B (4 * o + k) ++ (if B.testBit (4 * o + k) = true then ckT m M (40 * M + i) (fun o p => TM m c p o) (4 * o + k) else []) := rfl
      rw [hsh] at hk'
      by_cases eb : B.testBit (4 * o + k) = true
      · rw [if_pos eb] at hb hk'
        obtain ⟨c1, c2, c3, c4⟩ := hb
        obtain ⟨s', hP, hs'⟩ := wtp_P hC hM hac.2.2.2.2.2.2.1 c2
        have hKl := hK _ _ o hP hs' c1 c3
        have hel := OOS_el hG.1.1 c1
        rw [puts_app] at hk'
        rw [c4]
        refine wpt (nI_pos' (by omega)) (wpc (e362w hn (by decide) (by decide) q2) (fun r hr => wpe h463 (wpt (by simp (disch := first | omega | decide) only [↓neg1, nlit, rI, rL, rI2, rL1, nI_add, pk_mul, sbT, dvT, nmd, ixT, ↓ibT, ltT, ltF, leT, leF, eqT, eqF, nM_ltT, nM_ltF, nM_leT, nM_leF, nM_eqF, nM_eqF', nbT0, nbT1, oI_s, oI_n, natF, natT, nltT, nltF, nleT, nleF, ↓reduceIte, lgc, not_true_eq_false, not_false_eq_true, or_false, false_or, or_true, true_or, and_true, true_and, and_false, false_and, ne_eq, eq_self, or_self, and_self]) ?_)))
        have sr := sx_trans q3 hr.2
        have hAr := AG_pG hA sr
        rw [ix_n (by omega), sr.1 250 _ rfl, c4]
        refine wpc (e448 hn hAr (by omega) (by omega) (put_ne (Or.inr (wb_ne (by decide) (by decide)))) hr.1) (fun y hy => ?_)
        have sy := sx_trans sr hy.2
        have hAy := AG_pG hA sy
        refine wpe (e459 hAy hC hM (by omega) hac.2.1 hac.1.2 hac.2.2.2.2.2.2.1 c2) ?_
        have hw4 := wnt_le hC hac.2.2.2.2.2.2.1
        have hxn : natN (nI (wnt m (40 * M + i) - 1 - k)) = wnt m (40 * M + i) - 1 - k := by
          unfold natN
          rw [nI_toInt (by omega)]
          omega
        rw [nat_pos (x := nI (wnt m (40 * M + i) - 1 - k)) (nI_pos' (by omega)), hxn]
        refine wpc (e364 (by omega) (by omega) (puts_ne (put_ne (Or.inr (wb_ne (by decide) (by decide)))) _) hy.1) (fun z hz => wpc (e362w hn (by decide) (by decide) hz.1) (fun v hv => hk' v ⟨?_, sx_trans sy (sx_trans hz.2 hv.2)⟩))
        have hfin := hv.1
        rw [wbs.1] at hfin
        unfold ckT
        rw [show (4 * o + k) / 4 = o by omega, show (4 * o + k) % 4 = k by omega]
        exact hfin
      · rw [if_neg eb] at hb hk'
        rw [hb h6]
        rw [List.append_nil] at hk'
        exact wpf (by decide) (hk' x ⟨q2, q3⟩)
    · rintro ⟨k0, x⟩ ⟨q1, q2, q3⟩
      dsimp only at q1 q2 q3
      subst q1
      exact wpt (by dsimp only; decide) ⟨q2, q3⟩
    · rintro d ⟨d1, d2⟩
      refine wpl ⟨nI_1 _, by omega, fun z => ?_, d1, d2⟩
      rcases z with z | z
      · exact absurd z e
      · rw [h6] at z
        exact absurd z (by decide)
  · rintro ⟨o0, w⟩ ⟨g1, g2, g3, g4, g5⟩
    dsimp only at g1 g2 g3 g4 g5
    subst g1
    dsimp only
    rw [g5.1 174 15 rfl, h15]
    refine wpt (by simp (disch := first | omega | decide) only [↓neg1, nlit, rI, rL, rI2, rL1, nI_add, pk_mul, sbT, dvT, nmd, ixT, ↓ibT, ltT, ltF, leT, leF, eqT, eqF, nM_ltT, nM_ltF, nM_leT, nM_leF, nM_eqF, nM_eqF', nbT0, nbT1, oI_s, oI_n, natF, natT, nltT, nltF, nleT, nleF, ↓reduceIte, lgc, not_true_eq_false, not_false_eq_true, or_false, false_or, or_true, true_or, and_true, true_and, and_false, false_and, ne_eq, eq_self, or_self, and_self]) ⟨?_, g5⟩
    by_cases e : a2 = 0
    · rw [if_neg (by rw [decide_eq_true_iff]; exact fun z => z e)]
      rw [g3 (Or.inl e)] at g4
      exact g4
    · rw [if_pos (decide_eq_true e), hstop]
      exact g4
theorem CKA_pG {m c u w : cS} {M i B : Nat} (h : CKA m c u M i B) (hs : sx pG u w) : CKA m c w M i B := by
  obtain ⟨h1, h2, h3⟩ := h
  refine ⟨h1, h2, fun o k ho hk => ?_⟩
  rw [hs.1 174 106 rfl, hs.1 250 _ rfl]
  exact h3 o k ho hk
theorem CKA_464 {m c u : cS} {M i B : Nat} (h6 : u.1 174 106 = nI 0 ∨ u.1 174 106 = nI 1) (hK : ∀ o k, k < wnt m (40 * M + i) → o < ocn m → u.1 174 106 = nI 1 → TM m c (wtp m M (40 * M + i) k) o < 12) (h : CKA m c u M i B) : (u.1 174 106 = nI 0 ∧ ∀ t, t < 16 → B.testBit t = false) ∨ (u.1 174 106 = nI 1 ∧ ∀ t, t < 16 → (u.1 250 (16 * (40 * M + i) + t) < 0 ↔ B.testBit t = false)) := by
  obtain ⟨h1, h2, h3⟩ := h
  rcases h6 with h6 | h6
  · refine Or.inl ⟨h6, fun t ht => ?_⟩
    have hb := h3 (t / 4) (t % 4) (by omega) (by omega)
    rw [show 4 * (t / 4) + t % 4 = t by omega] at hb
    by_cases e : B.testBit t = true
    · rw [if_pos e, h6] at hb
      exact absurd hb.2.2.1 (by decide)
    · simpa using e
  · refine Or.inr ⟨h6, fun t ht => ?_⟩
    have hb := h3 (t / 4) (t % 4) (by omega) (by omega)
    rw [show 4 * (t / 4) + t % 4 = t by omega] at hb
    by_cases e : B.testBit t = true
    · rw [if_pos e] at hb
      have := hK (t / 4) (t % 4) hb.2.1 hb.1 h6
      rw [hb.2.2.2, e]
      exact ⟨fun z => absurd z (by simp (disch := first | omega | decide) only [↓neg1, nlit, rI, rL, rI2, rL1, nI_add, pk_mul, sbT, dvT, nmd, ixT, ↓ibT, ltT, ltF, leT, leF, eqT, eqF, nM_ltT, nM_ltF, nM_leT, nM_leF, nM_eqF, nM_eqF', nbT0, nbT1, oI_s, oI_n, natF, natT, nltT, nltF, nleT, nleF, ↓reduceIte, lgc, not_true_eq_false, not_false_eq_true, or_false, false_or, or_true, true_or, and_true, true_and, and_false, false_and, ne_eq, eq_self, or_self, and_self]), fun z => by cases z⟩
    · rw [if_neg e] at hb
      have e : B.testBit t = false := by simpa using e
      rw [e, hb h6]
      exact ⟨fun _ => rfl, fun _ => by decide⟩
theorem c_code {n : Nat} {a1 a2 : Int32} {c u : cS} (hn : 3000 ≤ n) (hW : WT c) (h : PR4 c (pI u 174 0 0)) (hJ : JO c (pI u 174 0 0)) : bo (d_81 n a1 a2 c) (d_135 n a1 a2 u) (fun d w => sx qO c d ∧ sx pG (pI u 174 0 0) w ∧ JO d w) := by
  unfold bo d_81 d_135 lt
  generalize pI u 174 0 0 = k at h hJ ⊢
  rcases h with hz | ⟨h1, m, h2, hA, hG, hB, hT, hF, hFl, hC4⟩
  · obtain ⟨p1, p2⟩ := pl0 (n := n) (a := a1) hz.1 hz.2.1
    refine wpe p1 (wpj (wpf (by decide) ?_))
    refine wpe (show d_111 n a1 k = some (nI 0) by unfold d_111; simp (disch := first | omega | decide) only [↓neg1, nlit, rI, rL, rI2, rL1, nI_add, pk_mul, sbT, dvT, nmd, ixT, ↓ibT, ltT, ltF, leT, leF, eqT, eqF, nM_ltT, nM_ltF, nM_leT, nM_leF, nM_eqF, nM_eqF', nbT0, nbT1, oI_s, oI_n, natF, natT, nltT, nltF, nleT, nleF, ↓reduceIte, lgc, not_true_eq_false, not_false_eq_true, or_false, false_or, or_true, true_or, and_true, true_and, and_false, false_and, ne_eq, eq_self, or_self, and_self, obs, ↓jn, ↓lt, ↓reduceIte, decide_true, decide_false, Bool.false_eq_true, Bool.and_true, Bool.and_false, Bool.true_and, Bool.false_and, Bool.or_false, Bool.false_or, Bool.or_true, Bool.true_or, p2]) (wpt rfl ?_)
    exact ⟨rfl, sx_rfl, sx_rfl, hJ⟩
  have hE := hG.1
  have hC := hE.2.2.1
  have ho4 := hE.1.1
  rcases plA (n := n) (a := a1) h1 h2 hA hC with ⟨p1, p2⟩ | ⟨p, s, p1, rfl, p3, p4, p5, p6, p7⟩
  · refine wpe p1 (wpj (wpf (by decide) ?_))
    refine wpe (show d_111 n a1 k = some (nI 0) by unfold d_111; simp (disch := first | omega | decide) only [↓neg1, nlit, rI, rL, rI2, rL1, nI_add, pk_mul, sbT, dvT, nmd, ixT, ↓ibT, ltT, ltF, leT, leF, eqT, eqF, nM_ltT, nM_ltF, nM_leT, nM_leF, nM_eqF, nM_eqF', nbT0, nbT1, oI_s, oI_n, natF, natT, nltT, nltF, nleT, nleF, ↓reduceIte, lgc, not_true_eq_false, not_false_eq_true, or_false, false_or, or_true, true_or, and_true, true_and, and_false, false_and, ne_eq, eq_self, or_self, and_self, obs, ↓jn, ↓lt, ↓reduceIte, decide_true, decide_false, Bool.false_eq_true, Bool.and_true, Bool.and_false, Bool.true_and, Bool.false_and, Bool.or_false, Bool.false_or, Bool.or_true, Bool.true_or, p2]) (wpt rfl ?_)
    exact ⟨rfl, sx_rfl, sx_rfl, hJ⟩
  by_cases hs : s = 2
  · subst hs
    obtain ⟨m1, m2, m3⟩ := isP_MT hC p3 rfl
    have h22 := e22 (n := n) (p := p) (by omega) m1
    have h421 := e421 (n := n) (p := p) (by omega) m1
    have h111 : d_111 n (nI p) k = some (nI 1) := by
      unfold d_111
      simp (disch := first | omega | decide) only [↓neg1, nlit, rI, rL, rI2, rL1, nI_add, pk_mul, sbT, dvT, nmd, ixT, ↓ibT, ltT, ltF, leT, leF, eqT, eqF, nM_ltT, nM_ltF, nM_leT, nM_leF, nM_eqF, nM_eqF', nbT0, nbT1, oI_s, oI_n, natF, natT, nltT, nltF, nleT, nleF, ↓reduceIte, lgc, not_true_eq_false, not_false_eq_true, or_false, false_or, or_true, true_or, and_true, true_and, and_false, false_and, ne_eq, eq_self, or_self, and_self, obs, ↓jn, ↓lt, ↓reduceIte, decide_true, decide_false, Bool.false_eq_true, Bool.and_true, Bool.and_false, Bool.true_and, Bool.false_and, Bool.or_false, Bool.false_or, Bool.or_true, Bool.true_or, p6, p7]
    have hme : 8 * (p / 100) + (p % 100 - 20) / 10 = mAt p := rfl
    rw [hme] at h22 h421
    generalize hMe : mAt p = M at *
    have hmt := (hG.2.2.2.1 M m2).1
    have hn40 := hmt.1.2
    have hM96 := isMt_lt hC m2
    obtain ⟨Bf, hBf⟩ : ∃ Bf : Nat → Nat, ∀ i, i < acn m M → CKA m c k M i (Bf i) := by
      refine ⟨fun i => if hi : i < acn m M then Classical.choose (CKA_of hG hC4 m2 hi).2 else 0, fun i hi => ?_⟩
      dsimp only
      rw [dif_pos hi]
      exact Classical.choose_spec (CKA_of hG hC4 m2 hi).2
    have h6 := (CKA_of hG hC4 m2 (show 0 < acn m M by have := hmt.1.1; omega)).1
    have h6' : k.1 174 106 = nI 0 ∨ k.1 174 106 = nI 1 := h6.imp id (fun z => z.1)
    have hD : CDB m c k M Bf := ⟨hG, hT, hF, m2, h6, hBf⟩
    refine wpe p5 (wpj (wpt rfl (wpe h22 (wpc (e335 (by omega) hW hD) (fun r hr => ?_)))))
    obtain ⟨r1, r2, r3⟩ := hr
    have hKl : ∀ p s o, isP m p s → 1 ≤ s → o < ocn m → k.1 174 106 = nI 1 → TM m c p o < eln m o := by
      intro p s o hp hs ho hk1
      rcases h6 with h6 | h6
      · rw [h6] at hk1
        exact absurd hk1 (by decide)
      · exact (e190 (n := n) hG.1.1 hp hs ho (EC_row hG.1 hp).1 h6.2 hT hF).2
    refine wpe h111 (wpf (by decide) (wpe h421 ?_))
    show wp (Option.bind (whl _ n (0, pI (pI k 174 4 0) 174 5 0)) _) _
    generalize e8 : pI (pI k 174 4 0) 174 5 0 = k8
    have s8 : sx pG k k8 := by
      rw [← e8]
      exact sx_pI (sx_pI sx_rfl rfl) rfl
    have o8 : OG k8 [] := by
      rw [← e8]
      refine ⟨OM_nil ?_, ?_⟩
      · rw [rI, if_neg (by omega), rI, if_pos ⟨rfl, rfl⟩]
        rfl
      · rw [rI, if_pos ⟨rfl, rfl⟩]
        rfl
    have h210 : k.1 210 M = nI (acn m M) := (hA.1 210 _ rfl).trans hmt.2.1
    refine wpc (K' := fun d : cS => OG d (puts [] (cdT m M (fun o p => TM m c p o) Bf (decide (a2 ≠ 0)) (acn m M))) ∧ sx pG k d) (whl_cnt (fun i (st : Int32 × cS) => st.1 = nI i ∧ OG st.2 (puts [] (cdT m M (fun o p => TM m c p o) Bf (decide (a2 ≠ 0)) i)) ∧ sx pG k st.2) (acn m M) ?_ ?_ (by omega) ⟨rfl, o8, s8⟩) ?_
    · rintro i ⟨i0, w⟩ hi ⟨g1, g2, g3⟩
      dsimp only at g1 g2 g3
      subst g1
      dsimp only
      refine wpt (by simp (disch := first | omega | decide) only [↓neg1, nlit, rI, rL, rI2, rL1, nI_add, pk_mul, sbT, dvT, nmd, ixT, ↓ibT, ltT, ltF, leT, leF, eqT, eqF, nM_ltT, nM_ltF, nM_leT, nM_leF, nM_eqF, nM_eqF', nbT0, nbT1, oI_s, oI_n, natF, natT, nltT, nltF, nleT, nleF, ↓reduceIte, lgc, not_true_eq_false, not_false_eq_true, or_false, false_or, or_true, true_or, and_true, true_and, and_false, false_and, ne_eq, eq_self, or_self, and_self]) ?_
      rw [ix_n (by omega), g3.1 210 M rfl, h210]
      refine wpf (by simp (disch := first | omega | decide) only [↓neg1, nlit, rI, rL, rI2, rL1, nI_add, pk_mul, sbT, dvT, nmd, ixT, ↓ibT, ltT, ltF, leT, leF, eqT, eqF, nM_ltT, nM_ltF, nM_leT, nM_leF, nM_eqF, nM_eqF', nbT0, nbT1, oI_s, oI_n, natF, natT, nltT, nltF, nleT, nleF, ↓reduceIte, lgc, not_true_eq_false, not_false_eq_true, or_false, false_or, or_true, true_or, and_true, true_and, and_false, false_and, ne_eq, eq_self, or_self, and_self]) (wpl ?_)
      rw [show (40 : Int32) * nI M + nI i = nI (40 * M + i) by rw [show (40 : Int32) = nI 40 from rfl, pk_mul, nI_add]]
      have hAw := AG_pG hA g3
      have hck : wp _ _ := ck_r (n := n) (a2 := a2) (by omega) hAw hG m2 hi (by rw [g3.1 174 106 rfl]; exact h6') (CKA_pG (hBf i hi) g3) (fun p s o hp hs ho => ?_) g2
      · refine wpc hck (fun d hd => ?_)
        have sd := sx_trans g3 hd.2
        have hAd := AG_pG hA sd
        have h447 := e447 (n := n) (t := some (cdn m M Bf (decide (a2 ≠ 0)) i)) (a4 := a2) (by omega) hAd hG m2 hi (fun t ht hl => ?_) hd.1
        · rw [show (if (some (cdn m M Bf (decide (a2 ≠ 0)) i) : Option Nat) = none then (0 : Int32) else 1) = 1 from rfl] at h447
          refine wpc h447 (fun y hy => wpc (e362w (by omega) (by decide) (by decide) hy.1) (fun z hz => wpl ⟨nI_1 _, ?_, sx_trans sd (sx_trans hy.2 hz.2)⟩))
          have hfin := hz.1
          rw [wbs.1] at hfin
          dsimp only
          show OG z (puts [] (cdT m M (fun o p => TM m c p o) Bf (decide (a2 ≠ 0)) i ++ ((if decide (a2 ≠ 0) = true then ckL m M (40 * M + i) (fun o p => TM m c p o) (Bf i) 16 else []) ++ ([wb (2 + opn m (40 * M + i))] ++ opT m M (40 * M + i) ++ lbK m M (40 * M + i) (some (cdn m M Bf (decide (a2 ≠ 0)) i)) ++ [[59]]))))
          rw [puts_app, puts_app, puts_app, puts_1]
          exact hfin
        · cases ht
          obtain ⟨l1, l2⟩ := lbT_lt hG m2 hi hl
          have hal := ahd_le (Bf := Bf) (fl := decide (a2 ≠ 0)) (lbT m (40 * M + i))
          unfold cdn
          rw [if_pos hl]
          refine ⟨by omega, fun q hq => ?_⟩
          refine e465 (by omega) hM96 (by omega) (fun t ht => ?_)
          have sq := sx_trans sd hq
          refine e464 (m := m) (by omega) (by omega) ho4 ?_
          refine CKA_464 (by rw [sq.1 174 106 rfl]; exact h6') (fun o k' hk' ho hq1 => ?_) (CKA_pG (hBf t (by omega)) sq)
          obtain ⟨s', hP, hs'⟩ := wtp_P hC m2 (MTS_ac hG.2.2 m2 (show t < acn m M by omega)).2.2.2.2.2.2.1 hk'
          have := hKl _ _ o hP hs' ho ((sq.1 174 106 rfl).symm.trans hq1)
          have := OOS_el hG.1.1 ho
          omega
      · exact fun hq1 => hKl _ _ o hp hs ho ((g3.1 174 106 rfl).symm.trans hq1)
    · rintro ⟨i0, w⟩ ⟨g1, g2, g3⟩
      dsimp only at g1 g2 g3
      subst g1
      dsimp only
      refine wpt (by simp (disch := first | omega | decide) only [↓neg1, nlit, rI, rL, rI2, rL1, nI_add, pk_mul, sbT, dvT, nmd, ixT, ↓ibT, ltT, ltF, leT, leF, eqT, eqF, nM_ltT, nM_ltF, nM_leT, nM_leF, nM_eqF, nM_eqF', nbT0, nbT1, oI_s, oI_n, natF, natT, nltT, nltF, nleT, nleF, ↓reduceIte, lgc, not_true_eq_false, not_false_eq_true, or_false, false_or, or_true, true_or, and_true, true_and, and_false, false_and, ne_eq, eq_self, or_self, and_self]) ?_
      rw [ix_n (by omega), g3.1 210 M rfl, h210]
      exact wpt (by simp (disch := first | omega | decide) only [↓neg1, nlit, rI, rL, rI2, rL1, nI_add, pk_mul, sbT, dvT, nmd, ixT, ↓ibT, ltT, ltF, leT, leF, eqT, eqF, nM_ltT, nM_ltF, nM_leT, nM_leF, nM_eqF, nM_eqF', nbT0, nbT1, oI_s, oI_n, natF, natT, nltT, nltF, nleT, nleF, ↓reduceIte, lgc, not_true_eq_false, not_false_eq_true, or_false, false_or, or_true, true_or, and_true, true_and, and_false, false_and, ne_eq, eq_self, or_self, and_self]) ⟨g2, g3⟩
    · rintro d ⟨d1, d2⟩
      refine ⟨r1.trans d1.1.1.symm, r3, d2, JO_of r2 d1.1⟩
  · refine wpe p5 (wpj (wpf (by simp (disch := first | omega | decide) only [↓neg1, nlit, rI, rL, rI2, rL1, nI_add, pk_mul, sbT, dvT, nmd, ixT, ↓ibT, ltT, ltF, leT, leF, eqT, eqF, nM_ltT, nM_ltF, nM_leT, nM_leF, nM_eqF, nM_eqF', nbT0, nbT1, oI_s, oI_n, natF, natT, nltT, nltF, nleT, nleF, ↓reduceIte, lgc, not_true_eq_false, not_false_eq_true, or_false, false_or, or_true, true_or, and_true, true_and, and_false, false_and, ne_eq, eq_self, or_self, and_self]) ?_))
    refine wpe (show d_111 n (nI p) k = some (nI 0) by
      unfold d_111
      rcases (show s = 0 ∨ s = 1 ∨ s = 3 by omega) with rfl | rfl | rfl
      · simp (disch := first | omega | decide) only [↓neg1, nlit, rI, rL, rI2, rL1, nI_add, pk_mul, sbT, dvT, nmd, ixT, ↓ibT, ltT, ltF, leT, leF, eqT, eqF, nM_ltT, nM_ltF, nM_leT, nM_leF, nM_eqF, nM_eqF', nbT0, nbT1, oI_s, oI_n, natF, natT, nltT, nltF, nleT, nleF, ↓reduceIte, lgc, not_true_eq_false, not_false_eq_true, or_false, false_or, or_true, true_or, and_true, true_and, and_false, false_and, ne_eq, eq_self, or_self, and_self, obs, ↓jn, ↓lt, ↓reduceIte, decide_true, decide_false, Bool.false_eq_true, Bool.and_true, Bool.and_false, Bool.true_and, Bool.false_and, Bool.or_false, Bool.false_or, Bool.or_true, Bool.true_or, p6, p7]
      · simp (disch := first | omega | decide) only [↓neg1, nlit, rI, rL, rI2, rL1, nI_add, pk_mul, sbT, dvT, nmd, ixT, ↓ibT, ltT, ltF, leT, leF, eqT, eqF, nM_ltT, nM_ltF, nM_leT, nM_leF, nM_eqF, nM_eqF', nbT0, nbT1, oI_s, oI_n, natF, natT, nltT, nltF, nleT, nleF, ↓reduceIte, lgc, not_true_eq_false, not_false_eq_true, or_false, false_or, or_true, true_or, and_true, true_and, and_false, false_and, ne_eq, eq_self, or_self, and_self, obs, ↓jn, ↓lt, ↓reduceIte, decide_true, decide_false, Bool.false_eq_true, Bool.and_true, Bool.and_false, Bool.true_and, Bool.false_and, Bool.or_false, Bool.false_or, Bool.or_true, Bool.true_or, p6, p7]
      · simp (disch := first | omega | decide) only [↓neg1, nlit, rI, rL, rI2, rL1, nI_add, pk_mul, sbT, dvT, nmd, ixT, ↓ibT, ltT, ltF, leT, leF, eqT, eqF, nM_ltT, nM_ltF, nM_leT, nM_leF, nM_eqF, nM_eqF', nbT0, nbT1, oI_s, oI_n, natF, natT, nltT, nltF, nleT, nleF, ↓reduceIte, lgc, not_true_eq_false, not_false_eq_true, or_false, false_or, or_true, true_or, and_true, true_and, and_false, false_and, ne_eq, eq_self, or_self, and_self, obs, ↓jn, ↓lt, ↓reduceIte, decide_true, decide_false, Bool.false_eq_true, Bool.and_true, Bool.and_false, Bool.true_and, Bool.false_and, Bool.or_false, Bool.false_or, Bool.or_true, Bool.true_or, p6, p7]) (wpt rfl ?_)
    exact ⟨rfl, sx_rfl, sx_rfl, hJ⟩
