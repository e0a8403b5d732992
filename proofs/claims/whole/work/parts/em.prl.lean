/-! READING PARAMETERS: the loop -/
section PRL
variable {n i j j0 N k M p0 t m U U0 oc kc mc : Nat} {c d u w v c0 u0 : cS} {K P : Nat → Nat} {V : Nat → Int64} {nm : Int64}
theorem PMX_up {X X' : Option ((Int32 × Int32 × cS) ⊕ (cS ⊕ (cS ⊕ cS)))} {Y Y' : Option cS} (h : PMX K P V N n c0 u0 X Y k M p0 t oc kc mc U U0 j0) (hX : ∀ Q, wp X Q → wp X' Q) (hY : ∀ Q, wp Y Q → wp Y' Q) : PMX K P V N n c0 u0 X' Y' k M p0 t oc kc mc U U0 j0 := by
  rcases h with ⟨z, q, h1, h2, h3⟩ | ⟨d, q, j', m, h1, h2, h3⟩
  · exact Or.inl ⟨z, q, eq_wp (hX _ (wp_of h1 rfl)), eq_wp (hY _ (wp_of h2 rfl)), h3⟩
  · exact Or.inr ⟨d, q, j', m, fun Q h => hX Q (h1 Q h), eq_wp (hY _ (wp_of h2 rfl)), h3⟩
theorem prm_go (hn : 10000 ≤ n) (hM : M < 96) (hp : p0 + 4 < 1200) (h156 : d_156 n (nI M) = some (nI p0)) (hP : PSI K P V N w v j) (hj : j0 ≤ j) (hU : 2 * U ≤ j) (hUU : U0 ≤ U) (hS : PMS w v k M p0 t oc kc mc U) (sc : sx (qTh M p0 U0) c0 w) (su : sx (qTg M p0) u0 v) : PMX K P V N n c0 u0 (pmC n (bI true, nI t, w)) (d_406 n (nI M) (nI p0) v) k M p0 t oc kc mc U U0 (j + 1) := by
  obtain ⟨⟨a1, a2⟩, ⟨b1, b2, b3, b4, b5⟩, d1, -⟩ := id hS
  have hkK := PSI_K hP
  have h161 := s161 (n := n) (c := w) (u := v) (a := M) (f := t) (nm := w.2 5 j) (by omega) hM (by omega) b3 d1
  have hC : ∀ Q : ((Int32 × Int32 × cS) ⊕ (cS ⊕ (cS ⊕ cS))) → Prop, wp (Option.bind (d_260 n (bI (dpS v 209 M t (w.2 5 j)).isSome) (bI (decide (t = 4))) w) (Sum.elim (pmC2 n (nI t) (nI M)) (fun z47 => some (.inr (.inr (.inr z47)))))) Q → wp (pmC n (bI true, nI t, w)) Q := fun Q h => by
    unfold pmC
    dsimp only
    rw [hP.2.2.1, a2, show ix (nI j) = j from ix_n (by omega)]
    refine wpf (by simp (disch := first | omega | decide) only [↓neg1, nlit, rI, rL, rI2, rL1, nI_add, pk_mul, sbT, dvT, nmd, ixT, ↓ibT, ltT, ltF, leT, leF, eqT, eqF, nM_ltT, nM_ltF, nM_leT, nM_leF, nM_eqF, nM_eqF', nbT0, nbT1, oI_s, oI_n, natF, natT, nltT, nltF, nleT, nleF, ↓reduceIte, lgc, not_true_eq_false, not_false_eq_true, or_false, false_or, or_true, true_or, and_true, true_and, and_false, false_and, ne_eq, eq_self, or_self, and_self]) (wpf (show ¬ bI true = 0 by decide) (wpt (ib_n (by omega) (by decide)) (wpe h161 (wpj ?_))))
    have hin : ∀ {y : Int32}, y = bI (dpS v 209 M t (w.2 5 j)).isSome → wp (jn (fun p45 : Int32 =>
                  Option.bind (d_260 n y p45 w) (Sum.elim (pmC2 n (nI t) (nI M))
                  (fun z47 => some (.inr (.inr (.inr z47))))))
                (fun j257 =>
                if nI t < 4 then
                  j257 0
                else
                  j257 1)) Q := fun {y} hy => by
      rw [hy]
      refine wpj ?_
      by_cases e : t = 4
      · rw [decide_eq_true e] at h
        exact wpf (by rw [e]; decide) h
      · rw [decide_eq_false e] at h
        exact wpt (by simp (disch := first | omega | decide) only [↓neg1, nlit, rI, rL, rI2, rL1, nI_add, pk_mul, sbT, dvT, nmd, ixT, ↓ibT, ltT, ltF, leT, leF, eqT, eqF, nM_ltT, nM_ltF, nM_leT, nM_leF, nM_eqF, nM_eqF', nbT0, nbT1, oI_s, oI_n, natF, natT, nltT, nltF, nleT, nleF, ↓reduceIte, lgc, not_true_eq_false, not_false_eq_true, or_false, false_or, or_true, true_or, and_true, true_and, and_false, false_and, ne_eq, eq_self, or_self, and_self]) h
    cases ed : dpS v 209 M t (w.2 5 j) with
    | none => exact wpt (show oI none < 0 by decide) (hin (by rw [ed]; rfl))
    | some l =>
      have := (ff_some ed).1
      rw [oI_s]
      exact wpf (nI_pos (by omega)) (hin (by rw [ed]; rfl))
  rcases nw_go (n := n) (rest := pmR2 n (nI M) (nI p0)) (A := 207) (B := 209) (aM := 96) (bM := 768) (a := M) (f := t) (L := 4) (by omega) hP (fun nm p h => pmR2_w h) hM (by omega) (by omega) (by omega) (by omega) (by omega) b4 (by omega) with ⟨x1, x2, x3, x4, x5, x6, x7⟩ | ⟨z, q, x1, x2, x3⟩
  · have hS1 : PMS (atC w (j + 1)) (atR v (j + 1)) k M p0 t oc kc mc U := PMS_cg hS hM (fun A l z => ⟨by unfold atC; rw [rI, if_neg z], rfl⟩) (fun A l z => ⟨by unfold atR; rw [rI, if_neg z], rfl⟩)
    exact PMX_up (prm2 (n := n) (j0 := j + 1) (nm := V j) hn hM hp h156 (by omega) x7 (by omega) (by omega) hUU hS1 (sx_pI sc (decide_eq_true (by omega))) (sx_pI su (decide_eq_true (by omega)))) (fun Q h => hC Q (wpe x5 (wpSl h))) (fun Q h => x6 Q h)
  · exact Or.inl ⟨z, q, eq_wp (hC _ (wpe x1 (wpSr rfl))), x2, FLR_tr x3 (qTh_c sc) (qTg_u su)⟩
def plR (n : Nat) (v22 v26 : Int32) (s58 : Int32 × cS) : Option ((Int32 × cS) ⊕ cS) :=
              if s58.1 = 0 then
                some (.inr s58.2)
              else
                if (s58.2.1 174 13) = 0 then
                  Option.bind (d_406 n v22 v26 s58.2) (fun r59 =>
                  Option.bind (d_379 n 44 r59) (fun r60 =>
                  some (.inl (r60.1, r60.2))))
                else
                  some (.inr s58.2)
def PMZ (K P : Nat → Nat) (V : Nat → Int64) (N : Nat) (c0 u0 : cS) (k M p0 oc kc mc U0 j0 : Nat) (d q : cS) : Prop := ∃ i t U, j0 ≤ i ∧ PSI K P V N d q i ∧ PMS d q k M p0 t oc kc mc U ∧ 2 * U ≤ i ∧ U0 ≤ U ∧ sx (qTh M p0 U0) c0 d ∧ sx (qTg M p0) u0 q
theorem prm_lp (hn : 10000 ≤ n) (hM : M < 96) (hp : p0 + 4 < 1200) (h156 : d_156 n (nI M) = some (nI p0)) (hP : PSI K P V N w v j) (hU : 2 * U ≤ j) (hUU : U0 ≤ U) (hS : PMS w v k M p0 0 oc kc mc U) (sc : sx (qTh M p0 U0) c0 w) (su : sx (qTg M p0) u0 v) : jw (whl (pmC n) n (1, 0, w)) (whl (plR n (nI M) (nI p0)) n (1, v)) (fun r q => (∃ d, r = .inl d ∧ PMZ K P V N c0 u0 k M p0 oc kc mc U0 j d q) ∨ (∃ z, r = .inr (.inr z) ∧ FLR c0 u0 z q)) := by
  have hN := hP.1.1
  refine jw_whf (fun m (s : Int32 × Int32 × cS) (t' : Int32 × cS) => ∃ i b t U, s.1 = bI b ∧ t'.1 = bI b ∧ s.2.1 = nI t ∧ j ≤ i ∧ m = N - i + (if b = true then 1 else 0) ∧ PSI K P V N s.2.2 t'.2 i ∧ PMS s.2.2 t'.2 k M p0 t oc kc mc U ∧ 2 * U ≤ i ∧ U0 ≤ U ∧ sx (qTh M p0 U0) c0 s.2.2 ∧ sx (qTg M p0) u0 t'.2) ?_ n n (N - j + 1) _ _ (by omega) (by omega) ⟨j, true, 0, U, rfl, rfl, rfl, Nat.le_refl _, rfl, hP, hS, hU, hUU, sc, su⟩
  rintro m ⟨s1, s2, w'⟩ ⟨t1, v'⟩ ⟨i', b, t, U', g1, g2, g3, g4, g5, g6, g7, g8, g9, g10, g11⟩
  dsimp only at g1 g2 g3 g6 g7 g10 g11
  subst g1 g2 g3
  have ht4 := g7.2.1.1
  cases b with
  | false =>
    refine jw_of (a := .inr (.inl w')) (b := .inr v') ?_ ?_ (Or.inr (Or.inl ⟨_, _, rfl, rfl, Or.inl ⟨w', rfl, i', t, U', g4, g6, g7, g8, g9, g10, g11⟩⟩))
    · unfold pmC
      dsimp only
      rw [if_neg (show ¬ (4 : Int32) < nI t by simp (disch := first | omega | decide) only [↓neg1, nlit, rI, rL, rI2, rL1, nI_add, pk_mul, sbT, dvT, nmd, ixT, ↓ibT, ltT, ltF, leT, leF, eqT, eqF, nM_ltT, nM_ltF, nM_leT, nM_leF, nM_eqF, nM_eqF', nbT0, nbT1, oI_s, oI_n, natF, natT, nltT, nltF, nleT, nleF, ↓reduceIte, lgc, not_true_eq_false, not_false_eq_true, or_false, false_or, or_true, true_or, and_true, true_and, and_false, false_and, ne_eq, eq_self, or_self, and_self])]
      rfl
    · rfl
  | true =>
    have hR : ∀ {q : cS} {Q : ((Int32 × cS) ⊕ cS) → Prop}, d_406 n (nI M) (nI p0) v' = some q → wp (Option.bind (d_379 n 44 q) (fun r57 => some (.inl (r57.1, r57.2)))) Q → wp (plR n (nI M) (nI p0) (bI true, v')) Q := fun {q Q} h1 h2 => by
      unfold plR
      exact wpf (show ¬ bI true = 0 by decide) (wpt g6.2.2.2.2 (wpe h1 h2))
    rcases prm_go (n := n) (j0 := i') hn hM hp h156 g6 (Nat.le_refl _) g8 g9 g7 g10 g11 with ⟨z, q, h1, h2, h3⟩ | ⟨d, q, j', m', h1, h2, h3, h4, h5, h6, h7⟩
    · exact wp_of h1 (hR h2 (wpe (e379w h3.2.2.1) (wp_of rfl (Or.inr (Or.inr ⟨_, _, q, rfl, rfl, rfl, Or.inr ⟨z, rfl, h3⟩⟩)))))
    · have h258 := e258 (n := n) (b := 44) h4 (by decide)
      have h379 := e379 (n := n) (b := 44) h4 (by decide) (by decide)
      have hj' := h4.2.1
      refine h1 _ ?_
      by_cases e : K j' = 44
      · rw [if_pos e] at h258 h379
        have hlt := PSI_lt h4 (by omega)
        refine wpe h258 (wpl ?_)
        dsimp only
        rw [nI_1]
        exact wp_of rfl (hR h2 (wpe h379 (wp_of rfl (Or.inl ⟨_, _, N - (j' + 1) + 1, rfl, rfl, by rw [g5, if_pos rfl]; omega, j' + 1, true, t + 1, U' + m', rfl, rfl, rfl, by omega, rfl, PSI_s h4 (by omega), PMS_cg h5 hM (fun A l z => ⟨by
          show (atC d (j' + 1)).1 A l = _
          unfold atC
          rw [rI, if_neg z], rfl⟩) (fun A l z => ⟨by
          show (atR q (j' + 1)).1 A l = _
          unfold atR
          rw [rI, if_neg z], rfl⟩), by omega, by omega, sx_pI h6 (decide_eq_true (by omega)), sx_pI h7 (decide_eq_true (by omega))⟩))))
      · rw [if_neg e] at h258 h379
        refine wpe h258 (wpl ?_)
        dsimp only
        rw [nI_1]
        exact wp_of rfl (hR h2 (wpe h379 (wp_of rfl (Or.inl ⟨_, _, N - j' + 0, rfl, rfl, by rw [g5, if_pos rfl]; omega, j', false, t + 1, U' + m', rfl, rfl, rfl, by omega, rfl, h4, h5, by omega, by omega, h6, h7⟩))))
end PRL
