/-! WIRING: parts are sought, the class -/
section SEC
variable {n : Nat} {c d m u : cS}
theorem nar01 {b : Bool} : vp_nar .boolean (if b = true then nI 1 else nI 0) = if b = true then nI 1 else nI 0 := by
  cases b <;> decide
theorem EFC_p {w y : cS} {e : Nat × Nat × Nat × Option Nat} {k : Nat} {b : Int32} (h : EFC w e y) : EFC (pI w 168 k b) e (pI y 168 k b) := fun h0 => by
  obtain ⟨h1, h2, h3⟩ := h h0
  have hc : CA w (pI w 168 k b) := CA_sx (r := fun A _ => decide (A = 168)) (sx_pI sx_rfl rfl) ⟨fun a i h1 h2 h3 => decide_eq_false (by omega), fun i h => decide_eq_false (by omega)⟩
  refine ⟨?_, ?_, ?_⟩
  · rw [rI, if_neg (by omega)]
    exact h1
  · rw [rI, if_neg (by omega)]
    exact h2
  · rw [rI, if_neg (by omega), oX_CA hc]
    exact h3
theorem sxS_p {w y : cS} {k : Nat} {b : Int32} (h : sx qS w y) : sx qS (pI w 168 k b) (pI y 168 k b) := by
  refine ⟨fun A i z => ?_, fun A i z => h.2 A i z⟩
  rw [rI, rI]
  by_cases e : A = 168 ∧ i = k
  · rw [if_pos e, if_pos e]
  · rw [if_neg e, if_neg e]
    exact h.1 A i z
theorem e344 (hn : 1000 ≤ n) (hE : EC c m) : wp (d_344 n c) (fun d => PTc m d (ccn m) ∧ sx q44 c d) := by
  obtain ⟨k1, k2, k3, k4, k5, k6, k7, -⟩ := id hE.2.1
  have hC := hE.2.2.1
  have h12 := (CCS_p hC).1
  have h248 := e248 (n := n) (v := 1885434484) (by omega) k1 k2 (fun k hk => (k4 k hk).1)
  have K1 : ∀ {y : cS}, sx q44 c y → y.1 7 10 = nI (ccn m) := fun hy => (hy.1 7 10 rfl).trans hC.1.2.1
  unfold d_344
  refine wpe (w44 hn) (wpe h248 ?_)
  refine wpc (K' := fun d : cS => PTc m d (ccn m) ∧ sx q44 c d) (whl_cnt (fun k (st : Int32 × cS) => st.1 = nI k ∧ PTc m st.2 k ∧ sx q44 c st.2) (ccn m) ?_ ?_ (by omega) ⟨rfl, fun x hx => absurd hx (Nat.not_lt_zero _), sx_rfl⟩) (fun d hd => hd)
  · rintro k ⟨k0, w⟩ hk ⟨g1, g2, g3⟩
    dsimp only at g1 g2 g3
    subst g1
    dsimp only
    rw [K1 g3]
    have hEw := EC_CA (CA_sx g3 nC_44) hE
    refine wpf (by simp (disch := first | omega | decide) only [↓neg1, nlit, rI, rL, rI2, rL1, nI_add, pk_mul, sbT, dvT, nmd, ixT, ↓ibT, ltT, ltF, leT, leF, eqT, eqF, nM_ltT, nM_ltF, nM_leT, nM_leF, nM_eqF, nM_eqF', nbT0, nbT1, oI_s, oI_n, natF, natT, nltT, nltF, nleT, nleF, ↓reduceIte, lgc, not_true_eq_false, not_false_eq_true, or_false, false_or, or_true, true_or, and_true, true_and, and_false, false_and, ne_eq, eq_self, or_self, and_self]) ?_
    refine wpjQ (fun y : Int32 × cS => y.1 = (if prt m k = true then nI 1 else nI 0) ∧ sx qS w y.2 ∧ ∀ t, kOf m 1885434484 = some t → EFC w (eff m t 13 (100 * k) 0) y.2) ?_ ?_
    · rintro ⟨b, y⟩ ⟨y1, y2, y3⟩
      dsimp only at y1 y2 y3
      dsimp only
      rw [show vp_nar .boolean b = b by rw [y1]; exact nar01]
      refine wpt (by simp (disch := first | omega | decide) only [↓neg1, nlit, rI, rL, rI2, rL1, nI_add, pk_mul, sbT, dvT, nmd, ixT, ↓ibT, ltT, ltF, leT, leF, eqT, eqF, nM_ltT, nM_ltF, nM_leT, nM_leF, nM_eqF, nM_eqF', nbT0, nbT1, oI_s, oI_n, natF, natT, nltT, nltF, nleT, nleF, ↓reduceIte, lgc, not_true_eq_false, not_false_eq_true, or_false, false_or, or_true, true_or, and_true, true_and, and_false, false_and, ne_eq, eq_self, or_self, and_self]) ?_
      rw [ix_n (by omega)]
      refine wpl (wpt (by simp (disch := first | omega | decide) only [↓neg1, nlit, rI, rL, rI2, rL1, nI_add, pk_mul, sbT, dvT, nmd, ixT, ↓ibT, ltT, ltF, leT, leF, eqT, eqF, nM_ltT, nM_ltF, nM_leT, nM_leF, nM_eqF, nM_eqF', nbT0, nbT1, oI_s, oI_n, natF, natT, nltT, nltF, nleT, nleF, ↓reduceIte, lgc, not_true_eq_false, not_false_eq_true, or_false, false_or, or_true, true_or, and_true, true_and, and_false, false_and, ne_eq, eq_self, or_self, and_self]) ?_)
      have sy : sx q44 c (pI y 168 k b) := sx_pI (sx_trans g3 (sx_wide y2 (fun a i z => by
        have := of_decide_eq_false z
        exact decide_eq_false (by omega)))) rfl
      refine wpjQ (fun l : Int64 => l = lab m k) ?_ ?_
      · rintro l rfl
        refine wpt (by simp (disch := first | omega | decide) only [↓neg1, nlit, rI, rL, rI2, rL1, nI_add, pk_mul, sbT, dvT, nmd, ixT, ↓ibT, ltT, ltF, leT, leF, eqT, eqF, nM_ltT, nM_ltF, nM_leT, nM_leF, nM_eqF, nM_eqF', nbT0, nbT1, oI_s, oI_n, natF, natT, nltT, nltF, nleT, nleF, ↓reduceIte, lgc, not_true_eq_false, not_false_eq_true, or_false, false_or, or_true, true_or, and_true, true_and, and_false, false_and, ne_eq, eq_self, or_self, and_self]) (wpl (wpt (by simp (disch := first | omega | decide) only [↓neg1, nlit, rI, rL, rI2, rL1, nI_add, pk_mul, sbT, dvT, nmd, ixT, ↓ibT, ltT, ltF, leT, leF, eqT, eqF, nM_ltT, nM_ltF, nM_leT, nM_leF, nM_eqF, nM_eqF', nbT0, nbT1, oI_s, oI_n, natF, natT, nltT, nltF, nleT, nleF, ↓reduceIte, lgc, not_true_eq_false, not_false_eq_true, or_false, false_or, or_true, true_or, and_true, true_and, and_false, false_and, ne_eq, eq_self, or_self, and_self]) (wpl (wpl ⟨nI_1 _, ?_, ?_⟩))))
        · dsimp only
          exact PT_set g2 y2 y1 rfl
        · exact sx_pI (sx_pL sy rfl) rfl
      · intro Q' k' hk'
        rw [show (pI y 168 k b).1 168 k = b by rw [rI, if_pos ⟨rfl, rfl⟩]]
        by_cases e : prt m k = true
        · refine wpf (by rw [y1, if_pos e]; decide) (wpe (w45 hn) ?_)
          cases ht : kOf m 1885434484 with
          | none =>
            rw [(prt_n ht).1] at e
            cases e
          | some t =>
            have htl := (ff_some ht).1
            obtain ⟨p1, p2⟩ := prt_s (x := k) ht
            rw [p1] at e
            have e' := of_decide_eq_true e
            have hEp : EC (pI w 168 k b) m := EC_CA (CA_sx (r := fun A _ => decide (A = 168)) (sx_pI sx_rfl rfl) ⟨fun a i h1 h2 h3 => decide_eq_false (by omega), fun i h => decide_eq_false (by omega)⟩) hEw
            have h346 := e346 (n := n) (a := 465490306412) (vs := 2) hn hEp (isP_C hk) htl e' (sxS_p y2) (EFC_p (y3 t ht)) (Or.inr rfl)
            refine wpe (show d_345 n (oI (some t)) 465490306412 _ = some (lab m k) from ?_) (hk' _ rfl)
            unfold d_345
            rw [p2, if_pos e']
            exact eq_wp (wpe h346 rfl)
        · refine wpt (by rw [y1, if_neg e]; rfl) (hk' 0 ?_)
          cases ht : kOf m 1885434484 with
          | none => exact (prt_n ht).2.symm
          | some t =>
            obtain ⟨p1, p2⟩ := prt_s (x := k) ht
            rw [p1] at e
            rw [p2, if_neg (fun z => e (decide_eq_true z))]
    · intro Q' k' hk'
      cases ht : kOf m 1885434484 with
      | none =>
        rw [(prt_n ht).1, if_neg (by decide)] at hk'
        exact wpj (wpt (by decide) (hk' (0, w) ⟨rfl, sx_rfl, fun t h => by rw [ht] at h; cases h⟩))
      | some t =>
        have htl := (ff_some ht).1
        rw [show (100 : Int32) * nI k = nI (100 * k) by rw [show (100 : Int32) = nI 100 from rfl, pk_mul]]
        refine wpj (wpf (by rw [oI_s]; simp (disch := first | omega | decide) only [↓neg1, nlit, rI, rL, rI2, rL1, nI_add, pk_mul, sbT, dvT, nmd, ixT, ↓ibT, ltT, ltF, leT, leF, eqT, eqF, nM_ltT, nM_ltF, nM_leT, nM_leF, nM_eqF, nM_eqF', nbT0, nbT1, oI_s, oI_n, natF, natT, nltT, nltF, nleT, nleF, ↓reduceIte, lgc, not_true_eq_false, not_false_eq_true, or_false, false_or, or_true, true_or, and_true, true_and, and_false, false_and, ne_eq, eq_self, or_self, and_self]) (wpc (e180 hn hEw (isP_C hk) (Or.inl htl)) (fun r hr => ?_)))
        obtain ⟨r1, r2, r3⟩ := hr
        obtain ⟨p1, p2⟩ := prt_s (x := k) ht
        rw [p1] at hk'
        by_cases e : 0 < (eff m t 13 (100 * k) 0).1
        · rw [decide_eq_true e, if_pos rfl] at hk'
          have he20 := (eff_ok hEw (isP_C hk) rfl e).2.1
          exact wpf (by rw [r1]; simp (disch := first | omega | decide) only [↓neg1, nlit, rI, rL, rI2, rL1, nI_add, pk_mul, sbT, dvT, nmd, ixT, ↓ibT, ltT, ltF, leT, leF, eqT, eqF, nM_ltT, nM_ltF, nM_leT, nM_leF, nM_eqF, nM_eqF', nbT0, nbT1, oI_s, oI_n, natF, natT, nltT, nltF, nleT, nleF, ↓reduceIte, lgc, not_true_eq_false, not_false_eq_true, or_false, false_or, or_true, true_or, and_true, true_and, and_false, false_and, ne_eq, eq_self, or_self, and_self]) (hk' (1, r.2) ⟨rfl, r2, fun t' h => by rw [ht] at h; cases h; exact r3⟩)
        · rw [decide_eq_false e, if_neg (by decide)] at hk'
          exact wpt (by rw [r1, show (eff m t 13 (100 * k) 0).1 = 0 by omega]; decide) (hk' (0, r.2) ⟨rfl, r2, fun t' h => by rw [ht] at h; cases h; exact r3⟩)
  · rintro ⟨k0, w⟩ ⟨g1, g2, g3⟩
    dsimp only at g1 g2 g3
    subst g1
    dsimp only
    rw [K1 g3]
    exact wpt (by simp (disch := first | omega | decide) only [↓neg1, nlit, rI, rL, rI2, rL1, nI_add, pk_mul, sbT, dvT, nmd, ixT, ↓ibT, ltT, ltF, leT, leF, eqT, eqF, nM_ltT, nM_ltF, nM_leT, nM_leF, nM_eqF, nM_eqF', nbT0, nbT1, oI_s, oI_n, natF, natT, nltT, nltF, nleT, nleF, ↓reduceIte, lgc, not_true_eq_false, not_false_eq_true, or_false, false_or, or_true, true_or, and_true, true_and, and_false, false_and, ne_eq, eq_self, or_self, and_self]) ⟨g2, g3⟩
end SEC
