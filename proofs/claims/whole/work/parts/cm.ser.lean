/-! WIRING: parts are sought, the reference -/
section SER
variable {n : Nat} {c d m u : cS}
def q43 (A i : Nat) : Bool := decide ((A = 174 ∧ 73 ≤ i ∧ i ≤ 79) ∨ A = 232 ∨ A = 233 ∨ (262 ≤ A ∧ A ≤ 265))
theorem nP_43 : nP q43 := by
  refine ⟨fun a i h => ?_, fun i h => ?_, fun i h => ?_, fun a i h1 h2 h3 => ?_, fun a i h1 h2 h3 => ?_⟩
  · have := PA_of h
    exact decide_eq_false (by omega)
  · have := PF_of h
    exact decide_eq_false (by omega)
  · exact decide_eq_false (by omega)
  · exact decide_eq_false (by omega)
  · exact decide_eq_false (by omega)
def PTr (m u : cS) (N : Nat) : Prop := ∀ x, x < N → u.1 262 x = nI 0 ∧ u.1 263 x = nI 0 ∧ u.1 264 x = (if prt m x = true then nI 1 else nI 0) ∧ (prt m x = true → u.2 265 x = lab m x)
def seR (n : Nat) (v13 : Int32) (c11 : cS) : Option cS := whl (R := (cS)) (fun s16 : Int32 × cS =>
      if (s16.2.1 174 37) ≤ s16.1 then
        some (.inr s16.2)
      else
        if ib s16.1 12 then
        lt (pI s16.2 262 (ix s16.1) (vp_nar .boolean 0)) (fun c18 =>
        if ib s16.1 12 then
        lt (pI c18 263 (ix s16.1) (vp_nar .boolean 0)) (fun c21 =>
        if ib s16.1 12 then
        lt (pI c21 264 (ix s16.1) (vp_nar .boolean 0)) (fun c24 =>
        jn (fun p26 : cS =>
          lt (s16.1 + 1 : Int32) (fun v28 =>
          some (.inl (v28, p26))))
        (fun j143 =>
        if 0 ≤ v13 then
          Option.bind (d_428 n (100 * s16.1) v13 c24) (fun r30 =>
          jn (fun p31 : Int32 =>
            if ib s16.1 12 then
            lt (pI r30 264 (ix s16.1) (vp_nar .boolean p31)) (fun c33 =>
            jn (fun p35 : Int64 × cS =>
              if ib s16.1 12 then
              lt (pL p35.2 265 (ix s16.1) p35.1) (fun c37 =>
              j143 c37)
              else none)
            (fun j142 =>
            if (c33.1 174 74) ≤ 0 then
              j142 (0, c33)
            else
              if ib 0 20 then
              Option.bind (d_474 n (c33.1 233 (ix 0)) v13 465490306412 c33) (fun r40 =>
              j142 (r40.1, r40.2))
              else none))
            else none)
          (fun j111 =>
          if (r30.1 174 74) ≤ 0 then
            j111 0
          else
            j111 1))
        else
          j143 c24))
        else none)
        else none)
        else none) n (0, c11)
theorem PTr_c {w y : cS} {k : Nat} (h : PTr m w k) (hy : ∀ x, x < k → y.1 262 x = w.1 262 x ∧ y.1 263 x = w.1 263 x ∧ y.1 264 x = w.1 264 x ∧ y.2 265 x = w.2 265 x) (h1 : y.1 262 k = nI 0) (h2 : y.1 263 k = nI 0) (h3 : y.1 264 k = if prt m k = true then nI 1 else nI 0) (h4 : prt m k = true → y.2 265 k = lab m k) : PTr m y (k + 1) := fun x hx => by
  by_cases e : x = k
  · rw [e]
    exact ⟨h1, h2, h3, h4⟩
  · obtain ⟨a1, a2, a3, a4⟩ := hy x (by omega)
    rw [a1, a2, a3, a4]
    exact h x (by omega)
/-- the first EFFECTIVE MARK is a MARK -/
theorem eff_MR {t p s : Nat} (hE : EC c m) (hP : isP m p s) (ht : isKy m t) (he : 0 < (eff m t 13 p 0).1) : ∃ y, efm m t (eff m t 13 p 0) 0 = some y ∧ MR m y := by
  obtain ⟨d, hd, h1, h2, h3⟩ := wp_ex (e180 (n := 1000) (by omega) hE hP ht)
  obtain ⟨y, y1, -, y3, -, y5⟩ := e185 (n := 1000) (i := 0) (by omega) hE hP ht rfl he h2 h3
  exact ⟨y, y1, MR_of y3 y5⟩
theorem eSR (hn : 1000 ≤ n) (hA : AG m u) (hE : EC c m) : wp (seR n (oI (kOf m 1885434484)) u) (fun d => PTr m d (ccn m) ∧ sx q43 u d) := by
  obtain ⟨k1, k2, k3, k4, k5, k6, k7, -⟩ := id hE.2.1
  have hC := hE.2.2.1
  have h12 := (CCS_p hC).1
  have i0 : ix (0 : Int32) = 0 := by decide
  have z0 : vp_nar .boolean 0 = nI 0 := by decide
  have K1 : ∀ {y : cS}, sx q43 u y → y.1 174 37 = nI (ccn m) := fun hy => (hy.1 174 37 rfl).trans ((hA.2.2.1 37 rfl).trans hC.1.2.2.1)
  unfold seR
  refine whl_cnt (fun k (st : Int32 × cS) => st.1 = nI k ∧ PTr m st.2 k ∧ sx q43 u st.2) (ccn m) ?_ ?_ (by omega) ⟨rfl, fun x hx => absurd hx (Nat.not_lt_zero _), sx_rfl⟩
  · rintro k ⟨k0, w⟩ hk ⟨g1, g2, g3⟩
    dsimp only at g1 g2 g3
    subst g1
    dsimp only
    rw [K1 g3, z0]
    refine wpf (by simp (disch := first | omega | decide) only [↓neg1, nlit, rI, rL, rI2, rL1, nI_add, pk_mul, sbT, dvT, nmd, ixT, ↓ibT, ltT, ltF, leT, leF, eqT, eqF, nM_ltT, nM_ltF, nM_leT, nM_leF, nM_eqF, nM_eqF', nbT0, nbT1, oI_s, oI_n, natF, natT, nltT, nltF, nleT, nleF, ↓reduceIte, lgc, not_true_eq_false, not_false_eq_true, or_false, false_or, or_true, true_or, and_true, true_and, and_false, false_and, ne_eq, eq_self, or_self, and_self]) (wpt (by simp (disch := first | omega | decide) only [↓neg1, nlit, rI, rL, rI2, rL1, nI_add, pk_mul, sbT, dvT, nmd, ixT, ↓ibT, ltT, ltF, leT, leF, eqT, eqF, nM_ltT, nM_ltF, nM_leT, nM_leF, nM_eqF, nM_eqF', nbT0, nbT1, oI_s, oI_n, natF, natT, nltT, nltF, nleT, nleF, ↓reduceIte, lgc, not_true_eq_false, not_false_eq_true, or_false, false_or, or_true, true_or, and_true, true_and, and_false, false_and, ne_eq, eq_self, or_self, and_self]) ?_)
    rw [ix_n (by omega)]
    refine wpl (wpt (by simp (disch := first | omega | decide) only [↓neg1, nlit, rI, rL, rI2, rL1, nI_add, pk_mul, sbT, dvT, nmd, ixT, ↓ibT, ltT, ltF, leT, leF, eqT, eqF, nM_ltT, nM_ltF, nM_leT, nM_leF, nM_eqF, nM_eqF', nbT0, nbT1, oI_s, oI_n, natF, natT, nltT, nltF, nleT, nleF, ↓reduceIte, lgc, not_true_eq_false, not_false_eq_true, or_false, false_or, or_true, true_or, and_true, true_and, and_false, false_and, ne_eq, eq_self, or_self, and_self]) (wpl (wpt (by simp (disch := first | omega | decide) only [↓neg1, nlit, rI, rL, rI2, rL1, nI_add, pk_mul, sbT, dvT, nmd, ixT, ↓ibT, ltT, ltF, leT, leF, eqT, eqF, nM_ltT, nM_ltF, nM_leT, nM_leF, nM_eqF, nM_eqF', nbT0, nbT1, oI_s, oI_n, natF, natT, nltT, nltF, nleT, nleF, ↓reduceIte, lgc, not_true_eq_false, not_false_eq_true, or_false, false_or, or_true, true_or, and_true, true_and, and_false, false_and, ne_eq, eq_self, or_self, and_self]) (wpl ?_))))
    have sv : sx q43 u (pI (pI (pI w 262 k (nI 0)) 263 k (nI 0)) 264 k (nI 0)) := sx_pI (sx_pI (sx_pI g3 rfl) rfl) rfl
    have v1 : ∀ A i, (pI (pI (pI w 262 k (nI 0)) 263 k (nI 0)) 264 k (nI 0)).1 A i = if (262 ≤ A ∧ A ≤ 264) ∧ i = k then nI 0 else w.1 A i := fun A i => by
      rw [rI, rI, rI]
      by_cases e : (262 ≤ A ∧ A ≤ 264) ∧ i = k
      · rw [if_pos e]
        have : A = 262 ∨ A = 263 ∨ A = 264 := by omega
        rcases this with rfl | rfl | rfl
        · rw [if_neg (by omega), if_neg (by omega), if_pos (by omega)]
        · rw [if_neg (by omega), if_pos (by omega)]
        · rw [if_pos (by omega)]
      · rw [if_neg e, if_neg (by omega), if_neg (by omega), if_neg (by omega)]
    have v2 : (pI (pI (pI w 262 k (nI 0)) 263 k (nI 0)) 264 k (nI 0)).2 = w.2 := rfl
    generalize pI (pI (pI w 262 k (nI 0)) 263 k (nI 0)) 264 k (nI 0) = v at sv v1 v2 ⊢
    refine wpjQ (fun y : cS => PTr m y (k + 1) ∧ sx q43 u y) (fun y hy => wpl ⟨nI_1 _, hy.1, hy.2⟩) ?_
    intro Q' k' hk'
    cases ht : kOf m 1885434484 with
    | none =>
      refine wpf (by decide) (hk' v ⟨PTr_c g2 (fun x hx => ?_) ?_ ?_ ?_ (fun z => by rw [(prt_n ht).1] at z; cases z), sv⟩)
      · rw [v1, v1, v1, v2, if_neg (by omega), if_neg (by omega), if_neg (by omega)]
        exact ⟨rfl, rfl, rfl, rfl⟩
      · rw [v1, if_pos (by omega)]
      · rw [v1, if_pos (by omega)]
      · rw [v1, if_pos (by omega), (prt_n ht).1]
        rfl
    | some t =>
      have htl := (ff_some ht).1
      obtain ⟨p1, p2⟩ := prt_s (x := k) ht
      have hAv := AG_sx hA sv nP_43
      rw [show (100 : Int32) * nI k = nI (100 * k) by rw [show (100 : Int32) = nI 100 from rfl, pk_mul]]
      refine wpt (nI_pos' (by omega)) (wpc (e428 hn hAv hE (isP_C hk) (Or.inl htl)) (fun r hr => ?_))
      obtain ⟨r1, r2, -⟩ := hr
      have sr : sx q43 u r := sx_trans sv (sx_wide r1 (fun a i z => by
        have := of_decide_eq_false z
        exact decide_eq_false (by omega)))
      have R1 : ∀ A i, 262 ≤ A → r.1 A i = v.1 A i := fun A i z => r1.1 A i (decide_eq_false (by omega))
      have R2 : ∀ A i, 262 ≤ A → r.2 A i = v.2 A i := fun A i z => r1.2 A i (decide_eq_false (by omega))
      refine wpjQ (fun b : Int32 => b = if prt m k = true then nI 1 else nI 0) ?_ ?_
      · intro b hb
        rw [show vp_nar .boolean b = b by rw [hb]; exact nar01]
        refine wpt (by simp (disch := first | omega | decide) only [↓neg1, nlit, rI, rL, rI2, rL1, nI_add, pk_mul, sbT, dvT, nmd, ixT, ↓ibT, ltT, ltF, leT, leF, eqT, eqF, nM_ltT, nM_ltF, nM_leT, nM_leF, nM_eqF, nM_eqF', nbT0, nbT1, oI_s, oI_n, natF, natT, nltT, nltF, nleT, nleF, ↓reduceIte, lgc, not_true_eq_false, not_false_eq_true, or_false, false_or, or_true, true_or, and_true, true_and, and_false, false_and, ne_eq, eq_self, or_self, and_self]) (wpl ?_)
        have sb : sx q43 u (pI r 264 k b) := sx_pI sr rfl
        have B1 : ∀ A i, (pI r 264 k b).1 A i = if A = 264 ∧ i = k then b else r.1 A i := fun A i => rI ..
        have hAb := AG_sx hA sb nP_43
        refine wpjQ (fun y : Int64 × cS => (prt m k = true → y.1 = lab m k) ∧ sx q79 (pI r 264 k b) y.2) ?_ ?_
        · rintro ⟨l, y⟩ ⟨y1, y2⟩
          dsimp only at y1 y2
          dsimp only
          have Y1 : ∀ A i, 262 ≤ A → y.1 A i = (pI r 264 k b).1 A i := fun A i z => y2.1 A i (decide_eq_false (by omega))
          have Y2 : ∀ A i, 262 ≤ A → y.2 A i = (pI r 264 k b).2 A i := fun A i z => y2.2 A i (decide_eq_false (by omega))
          refine wpt (by simp (disch := first | omega | decide) only [↓neg1, nlit, rI, rL, rI2, rL1, nI_add, pk_mul, sbT, dvT, nmd, ixT, ↓ibT, ltT, ltF, leT, leF, eqT, eqF, nM_ltT, nM_ltF, nM_leT, nM_leF, nM_eqF, nM_eqF', nbT0, nbT1, oI_s, oI_n, natF, natT, nltT, nltF, nleT, nleF, ↓reduceIte, lgc, not_true_eq_false, not_false_eq_true, or_false, false_or, or_true, true_or, and_true, true_and, and_false, false_and, ne_eq, eq_self, or_self, and_self]) (wpl (hk' _ ⟨PTr_c g2 (fun x hx => ⟨?_, ?_, ?_, ?_⟩) ?_ ?_ ?_ (fun z => ?_), sx_pL (sx_trans sb (sx_wide y2 (fun a i z => by
            have := of_decide_eq_false z
            exact decide_eq_false (by omega)))) rfl⟩))
          · show y.1 262 x = _
            rw [Y1 262 x (by omega), B1, if_neg (by omega), R1 262 x (by omega), v1, if_neg (by omega)]
          · show y.1 263 x = _
            rw [Y1 263 x (by omega), B1, if_neg (by omega), R1 263 x (by omega), v1, if_neg (by omega)]
          · show y.1 264 x = _
            rw [Y1 264 x (by omega), B1, if_neg (by omega), R1 264 x (by omega), v1, if_neg (by omega)]
          · rw [rL, if_neg (by omega), Y2 265 x (by omega)]
            show r.2 265 x = _
            rw [R2 265 x (by omega), v2]
          · show y.1 262 k = _
            rw [Y1 262 k (by omega), B1, if_neg (by omega), R1 262 k (by omega), v1, if_pos (by omega)]
          · show y.1 263 k = _
            rw [Y1 263 k (by omega), B1, if_neg (by omega), R1 263 k (by omega), v1, if_pos (by omega)]
          · show y.1 264 k = _
            rw [Y1 264 k (by omega), B1, if_pos (by omega)]
            exact hb
          · rw [rL, if_pos ⟨rfl, rfl⟩]
            exact y1 z
        · intro Q2 k2 hk2
          have b74 : (pI r 264 k b).1 174 74 = nI (eff m t 13 (100 * k) 0).1 := by
            rw [B1, if_neg (by omega)]
            exact r2.1
          rw [b74]
          by_cases e : 0 < (eff m t 13 (100 * k) 0).1
          · have he20 := (eff_ok hE (isP_C hk) rfl e).2.1
            obtain ⟨y, q1, q2, q3⟩ := (r2.2 e).2.2.2 0 e
            obtain ⟨y', q4, q5⟩ := eff_MR hE (isP_C hk) (Or.inl htl) e
            rw [q1] at q4
            cases q4
            rw [i0]
            refine wpf (by simp (disch := first | omega | decide) only [↓neg1, nlit, rI, rL, rI2, rL1, nI_add, pk_mul, sbT, dvT, nmd, ixT, ↓ibT, ltT, ltF, leT, leF, eqT, eqF, nM_ltT, nM_ltF, nM_leT, nM_leF, nM_eqF, nM_eqF', nbT0, nbT1, oI_s, oI_n, natF, natT, nltT, nltF, nleT, nleF, ↓reduceIte, lgc, not_true_eq_false, not_false_eq_true, or_false, false_or, or_true, true_or, and_true, true_and, and_false, false_and, ne_eq, eq_self, or_self, and_self]) (wpt (by decide) ?_)
            rw [show (pI r 264 k b).1 233 0 = nI y by rw [B1, if_neg (by omega)]; exact q2]
            refine wpc (e474 hn hAb hE htl q1 q5) (fun z hz => hk2 _ ⟨fun _ => ?_, hz.2⟩)
            dsimp only
            rw [hz.1, p2, if_pos e]
          · refine wpt (by rw [show (eff m t 13 (100 * k) 0).1 = 0 by omega]; decide) (hk2 _ ⟨fun z => ?_, sx_rfl⟩)
            rw [p1] at z
            exact absurd (of_decide_eq_true z) e
      · intro Q2 k2 hk2
        rw [r2.1]
        rw [p1] at hk2
        by_cases e : 0 < (eff m t 13 (100 * k) 0).1
        · have he20 := (eff_ok hE (isP_C hk) rfl e).2.1
          rw [decide_eq_true e, if_pos rfl] at hk2
          exact wpf (by simp (disch := first | omega | decide) only [↓neg1, nlit, rI, rL, rI2, rL1, nI_add, pk_mul, sbT, dvT, nmd, ixT, ↓ibT, ltT, ltF, leT, leF, eqT, eqF, nM_ltT, nM_ltF, nM_leT, nM_leF, nM_eqF, nM_eqF', nbT0, nbT1, oI_s, oI_n, natF, natT, nltT, nltF, nleT, nleF, ↓reduceIte, lgc, not_true_eq_false, not_false_eq_true, or_false, false_or, or_true, true_or, and_true, true_and, and_false, false_and, ne_eq, eq_self, or_self, and_self]) (hk2 1 rfl)
        · rw [decide_eq_false e, if_neg (by decide)] at hk2
          exact wpt (by rw [show (eff m t 13 (100 * k) 0).1 = 0 by omega]; decide) (hk2 0 rfl)
  · rintro ⟨k0, w⟩ ⟨g1, g2, g3⟩
    dsimp only at g1 g2 g3
    subst g1
    dsimp only
    rw [K1 g3]
    exact wpt (by simp (disch := first | omega | decide) only [↓neg1, nlit, rI, rL, rI2, rL1, nI_add, pk_mul, sbT, dvT, nmd, ixT, ↓ibT, ltT, ltF, leT, leF, eqT, eqF, nM_ltT, nM_ltF, nM_leT, nM_leF, nM_eqF, nM_eqF', nbT0, nbT1, oI_s, oI_n, natF, natT, nltT, nltF, nleT, nleF, ↓reduceIte, lgc, not_true_eq_false, not_false_eq_true, or_false, false_or, or_true, true_or, and_true, true_and, and_false, false_and, ne_eq, eq_self, or_self, and_self]) ⟨g2, g3⟩
end SER
