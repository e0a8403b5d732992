/-! READING MARKS: a row of them -/
section ROW
variable {n i j N t k k0 rc rr U w oc kc mc cc i0 : Nat} {c d u c' u' : cS} {K P : Nat → Nat} {V : Nat → Int64} {b : Bool}
def MRI (K P : Nat → Nat) (V : Nat → Int64) (N : Nat) (c u : cS) (oc kc mc cc rc rr U w i0 m : Nat) (s : Int32 × cS) (t : cS) : Prop := ∃ i k, s.1 = nI k ∧ PSI K P V N s.2 t i ∧ RWG s.2 t oc kc rc rr U k w ∧ ENV s.2 t oc kc mc cc ∧ i0 + 2 * k ≤ i ∧ m = N - i ∧ sx (qRc rc U) c s.2 ∧ sx (qRr rr) u t
def MRX (K P : Nat → Nat) (V : Nat → Int64) (N : Nat) (c u : cS) (oc kc mc cc rc rr U w i0 : Nat) (r : cS ⊕ (cS ⊕ cS)) (q : cS) : Prop := (∃ d i k, r = .inl d ∧ i0 + 2 * k ≤ i ∧ ¬ K i = 64 ∧ PSI K P V N d q i ∧ RWG d q oc kc rc rr U k w ∧ ENV d q oc kc mc cc ∧ sx (qRc rc U) c d ∧ sx (qRr rr) u q) ∨ (∃ z, r = .inr (.inr z) ∧ FLR c u z q)
theorem mr_lp (hn : 10000 ≤ n) (hr : rc < 2242) (hrr : rr < 1219) (hw : w ≤ 6) (hU : 2 * U ≤ i0) (hP : PSI K P V N c u i0) (hV : ENV c u oc kc mc cc) (hS : RWS c u rc rr U 0) : jw (whl (mrC n (nI rc) (nI w)) n (0, c)) (whl (mrR n (nI rr) (nI (aw w)) (bI (decide (w < 4)))) n u) (MRX K P V N c u oc kc mc cc rc rr U w i0) := by
  have hN := hP.1.1
  refine jw_whf (MRI K P V N c u oc kc mc cc rc rr U w i0) ?_ n n (N - i0) _ _ (by omega) (by omega) ⟨i0, 0, rfl, hP, ⟨hS, fun j hj => absurd hj (Nat.not_lt_zero _)⟩, hV, by omega, rfl, sx_rfl, sx_rfl⟩
  rintro m ⟨s0, cw⟩ v ⟨i, k, g1, g2, g3, g4, g5, g6, g7, g8⟩
  dsimp only at g1 g2 g3 g4 g7
  subst g1
  have hkK := PSI_K g2
  have hk20 := g3.1.2.2.2.1
  have h144 := g3.1.2.2.2.2.1
  have h222 := g3.1.2.2.2.2.2.1
  have v13 : v.1 174 13 = nI 0 := g2.2.2.2.2
  have h101 := e101 (n := n) (b := 64) g2 (by decide) (by decide)
  have hibr : ib (nI rr) 1219 := ib_n hrr (by decide)
  have hibc : ib (nI rc) 2242 := ib_n hr (by decide)
  have hixr : ix (nI rr) = rr := ix_n (by omega)
  have hixc : ix (nI rc) = rc := ix_n (by omega)
  have e9 : v.1 179 (ix (nI i)) = nI (P i) := by
    rw [ix_n (by omega)]
    exact (g2.1.2.2.1 i g2.2.1).2.2.1
  by_cases e64 : K i = 64
  rotate_left
  · rw [if_neg e64] at h101
    refine jw_of (a := .inr (.inl cw)) (b := .inr v) ?_ ?_ (Or.inr (Or.inl ⟨_, _, rfl, rfl, Or.inl ⟨cw, i, k, rfl, g5, e64, g2, g3, g4, g7, g8⟩⟩))
    · unfold mrC
      dsimp only
      exact eq_wp (wpf (by simp (disch := first | omega | decide) only [↓neg1, nlit, rI, rL, rI2, rL1, nI_add, pk_mul, sbT, dvT, nmd, ixT, ↓ibT, ltT, ltF, leT, leF, eqT, eqF, nM_ltT, nM_ltF, nM_leT, nM_leF, nM_eqF, nM_eqF', nbT0, nbT1, oI_s, oI_n, natF, natT, nltT, nltF, nleT, nleF, ↓reduceIte, lgc, not_true_eq_false, not_false_eq_true, or_false, false_or, or_true, true_or, and_true, true_and, and_false, false_and, ne_eq, eq_self, or_self, and_self]) (wpe (e43 g2) (wpf (fun z => e64 ((nI_eq (by omega) (by decide)).mp (show _ = nI 64 from z))) rfl)))
    · unfold mrR
      exact eq_wp (wpt v13 (wpe h101 (wpt rfl rfl)))
  rw [if_pos e64] at h101
  have hP1 := PSI_s g2 (by omega)
  have hi := PSI_lt g2 (by omega)
  -- a FAULT: the reference goes once more round
  have bad : ∀ {z q : cS}, FLR c u z q → ((∃ s' t' m', (Sum.inr (Sum.inr (Sum.inr z)) : (Int32 × cS) ⊕ (cS ⊕ (cS ⊕ cS))) = .inl s' ∧ (Sum.inl q : cS ⊕ cS) = .inl t' ∧ m' < m ∧ MRI K P V N c u oc kc mc cc rc rr U w i0 m' s' t') ∨ (∃ r q', (Sum.inr (Sum.inr (Sum.inr z)) : (Int32 × cS) ⊕ (cS ⊕ (cS ⊕ cS))) = .inr r ∧ (Sum.inl q : cS ⊕ cS) = .inr q' ∧ MRX K P V N c u oc kc mc cc rc rr U w i0 r q') ∨ (∃ r t' q', (Sum.inr (Sum.inr (Sum.inr z)) : (Int32 × cS) ⊕ (cS ⊕ (cS ⊕ cS))) = .inr r ∧ (Sum.inl q : cS ⊕ cS) = .inl t' ∧ mrR n (nI rr) (nI (aw w)) (bI (decide (w < 4))) t' = some (.inr q') ∧ MRX K P V N c u oc kc mc cc rc rr U w i0 r q')) := fun {z q} hf => by
    refine Or.inr (Or.inr ⟨_, _, q, rfl, rfl, ?_, Or.inr ⟨z, rfl, hf⟩⟩)
    unfold mrR
    exact eq_wp (wpf (by rw [hf.2.2.1]; decide) rfl)
  have flB : ∀ {z q : cS}, FLR cw v z q → FLR c u z q := fun hf => FLR_tr hf (qRc_c g7) (qRr_u g8)
  by_cases e20 : k = 20
  · have hf := flt_at (u := v) (a := 6) (f := nI (P i))
    refine jw_of (a := .inr (.inr (.inr (flC cw 6 (nI (P i)))))) (b := .inl (pI (flt v 6 (nI (P i))) 174 67 (nI (i + 1)))) ?_ ?_ (bad (flB (FLR_sx (r := q67) (FLR_of sx_rfl sx_rfl) (sx_pI sx_rfl (by decide)) (fun A l z => ?_) (fun l z1 z2 => decide_eq_false (by omega)))))
    · unfold mrC
      dsimp only
      refine eq_wp (wpf (by simp (disch := first | omega | decide) only [↓neg1, nlit, rI, rL, rI2, rL1, nI_add, pk_mul, sbT, dvT, nmd, ixT, ↓ibT, ltT, ltF, leT, leF, eqT, eqF, nM_ltT, nM_ltF, nM_leT, nM_leF, nM_eqF, nM_eqF', nbT0, nbT1, oI_s, oI_n, natF, natT, nltT, nltF, nleT, nleF, ↓reduceIte, lgc, not_true_eq_false, not_false_eq_true, or_false, false_or, or_true, true_or, and_true, true_and, and_false, false_and, ne_eq, eq_self, or_self, and_self]) (wpe (e43 g2) (wpt (by rw [e64]; rfl) (wpe (a := (Sum.inr (flC cw 6 (nI (P i))) : (Int32 × cS) ⊕ cS)) ?_ (wpSr rfl)))))
      rw [d274_s, hixc, h144, e20]
      exact eq_wp (wpt hibc (wpj (wpf (by decide) (wpe (e42 g2) (wpe e41 rfl)))))
    · unfold mrR
      refine eq_wp (wpt v13 (wpe h101 (wpf (by decide) (wpt hibr (wpj ?_)))))
      rw [hixr, h222, e20, g2.2.2.2.1, e9]
      refine wpt rfl (wpt (ib_n (by omega) (by decide)) (wpe (e97 v13) ?_))
      dsimp only
      rw [hf.2.2.2 174 67 (by omega), g2.2.2.2.1, nI_1]
      refine wpl (wpf ?_ rfl)
      rw [rI, if_neg (by omega), hf.1]
      decide
    · have := of_decide_eq_true z
      exact decide_eq_true (by omega)
  have hk : k < 20 := by omega
  have s1 : sx (qRc rc U) cw (atC cw (i + 1)) := sx_pI sx_rfl (decide_eq_true (by omega))
  have s2 : sx (qRr rr) v (atR v (i + 1)) := sx_pI sx_rfl (decide_eq_true (by omega))
  have hG1 : ∀ {l : Nat}, RWG (atC cw l) (atR v l) oc kc rc rr U k w := fun {l} => by
    have C : ∀ A q, A ≠ 145 → (atC cw l).1 A q = cw.1 A q := fun A q z => by
      unfold atC
      rw [rI, if_neg (by omega)]
    have Uu : ∀ A q, A ≠ 174 → (atR v l).1 A q = v.1 A q := fun A q z => by
      unfold atR
      rw [rI, if_neg (by omega)]
    obtain ⟨⟨w1, w2, w3, w4, w5, w6, w7, w8, w9⟩, hM⟩ := g3
    refine ⟨⟨by rw [C _ _ (by omega)]; exact w1, by rw [C _ _ (by omega)]; exact w2, by rw [C _ _ (by omega)]; exact w3, w4, by rw [C _ _ (by omega)]; exact w5, by rw [Uu _ _ (by omega)]; exact w6, fun z => by rw [C _ _ (by omega), C _ _ (by omega)]; exact w7 z, fun q hq => by rw [C _ _ (by omega)]; exact w8 q hq, w9⟩, fun q hq => MIN_cg (hM q hq) (fun A q z => ⟨C _ _ (by omega), rfl⟩) (fun A q z => ⟨Uu _ _ (by omega), rfl⟩) (fun A q z1 z2 => ⟨Uu _ _ (by omega), rfl⟩)⟩
  have hCeq : ∀ {X : Option ((Int32 × cS) ⊕ cS)}, d_274 n (nI rc) (nI w) cw = X → mrC n (nI rc) (nI w) (nI k, cw) = Option.bind X (Sum.elim (bdC n (nI k)) (fun z5 => some (.inr (.inr (.inr z5))))) := fun {X} hX => by
    unfold mrC
    dsimp only
    rw [if_neg (show ¬ (20 : Int32) < nI k by simp (disch := first | omega | decide) only [↓neg1, nlit, rI, rL, rI2, rL1, nI_add, pk_mul, sbT, dvT, nmd, ixT, ↓ibT, ltT, ltF, leT, leF, eqT, eqF, nM_ltT, nM_ltF, nM_leT, nM_leF, nM_eqF, nM_eqF', nbT0, nbT1, oI_s, oI_n, natF, natT, nltT, nltF, nleT, nleF, ↓reduceIte, lgc, not_true_eq_false, not_false_eq_true, or_false, false_or, or_true, true_or, and_true, true_and, and_false, false_and, ne_eq, eq_self, or_self, and_self]), e43 g2, hX]
    show (if nI (K i) = 64 then _ else _) = _
    rw [if_pos (by rw [e64]; rfl)]
  have hReq : ∀ {q : cS}, d_397 n (nI rr) (nI (aw w)) (bI (decide (w < 4))) (atR v (i + 1)) = some q → mrR n (nI rr) (nI (aw w)) (bI (decide (w < 4))) v = some (.inl q) := fun {q} hX => by
    have hne : ¬ nI k = (20 : Int32) := fun z => e20 ((nI_eq (by omega) (by decide)).mp (show _ = nI 20 from z))
    unfold mrR
    refine eq_wp (wpt v13 (wpe h101 (wpf (by decide) (wpt hibr (wpj ?_)))))
    rw [hixr, h222]
    refine wpf hne ?_
    dsimp only
    rw [g2.2.2.2.1, nI_1]
    exact wpl (wpt hP1.2.2.2.2 (wpe hX rfl))
  have hcls : ∀ {X : Option ((Int32 × cS) ⊕ cS)}, (if 4 ≤ nI w then m2C n (nI rc) (nI w) (0, atC cw (i + 1)) else Option.bind (d_258 n 211 (atC cw (i + 1))) (fun r43 => if r43.1 = 0 then m2C n (nI rc) (nI w) (0, r43.2) else m2C n (nI rc) (nI w) (1, r43.2))) = X → d_274 n (nI rc) (nI w) cw = X := fun {X} hX => by
    rw [d274_s, hixc, h144, if_pos hibc]
    show (if nI k < 20 then lt (pI cw 145 7 (cw.1 145 7 + 1)) _ else _) = _
    rw [if_pos (show nI k < 20 by simp (disch := first | omega | decide) only [↓neg1, nlit, rI, rL, rI2, rL1, nI_add, pk_mul, sbT, dvT, nmd, ixT, ↓ibT, ltT, ltF, leT, leF, eqT, eqF, nM_ltT, nM_ltF, nM_leT, nM_leF, nM_eqF, nM_eqF', nbT0, nbT1, oI_s, oI_n, natF, natT, nltT, nltF, nleT, nleF, ↓reduceIte, lgc, not_true_eq_false, not_false_eq_true, or_false, false_or, or_true, true_or, and_true, true_and, and_false, false_and, ne_eq, eq_self, or_self, and_self]), g2.2.2.1, nI_1]
    exact hX
  have h100 := e100 (n := n) (b := 11) hP1 (by decide)
  have fin : ∀ {b : Bool} {j : Nat} {cj vj : cS}, i < j → PSI K P V N cj vj j → ENV cj vj oc kc mc cc → RWG cj vj oc kc rc rr U k w → sx (qRc rc U) cw cj → sx (qRr rr) v vj → (b = true → w < 4) → d_274 n (nI rc) (nI w) cw = m2C n (nI rc) (nI w) (bI b, cj) → d_397 n (nI rr) (nI (aw w)) (bI (decide (w < 4))) (atR v (i + 1)) = m2R n (nI rr) (nI (aw w)) (bI b, vj) → jw (mrC n (nI rc) (nI w) (nI k, cw)) (mrR n (nI rr) (nI (aw w)) (bI (decide (w < 4))) v) (fun a b => (∃ s' t' m', a = .inl s' ∧ b = .inl t' ∧ m' < m ∧ MRI K P V N c u oc kc mc cc rc rr U w i0 m' s' t') ∨ (∃ r q, a = .inr r ∧ b = .inr q ∧ MRX K P V N c u oc kc mc cc rc rr U w i0 r q) ∨ (∃ r t' q, a = .inr r ∧ b = .inl t' ∧ mrR n (nI rr) (nI (aw w)) (bI (decide (w < 4))) t' = some (.inr q) ∧ MRX K P V N c u oc kc mc cc rc rr U w i0 r q)) := fun {b j cj vj} y1 y2 y3 y4 y5 y6 y7 y8 y9 => by
    have hjN := y2.2.1
    obtain ⟨a, q, a1, a2, a3⟩ := jw_ex (mk2_go (k0 := k) (b := b) hn y2 y3 y4 hk hr hrr (by omega) hw y7)
    rw [hCeq y8]
    refine jw_of (a := a) (b := .inl q) a1 (hReq (y9.trans a2)) ?_
    rcases a3 with ⟨d, j', rfl, b1, b2, b3, b4, b5⟩ | ⟨z, rfl, hf⟩
    · have hj' := b2.2.1
      exact Or.inl ⟨_, _, N - j', rfl, rfl, by omega, j', k + 1, rfl, b2, b3, ENV_sx y3 b4 b5 (fun A l z => decide_eq_false (by omega)) (fun A l z => decide_eq_false (by omega)), by omega, rfl, sx_trans g7 (sx_trans y5 b4), sx_trans g8 (sx_trans y6 b5)⟩
    · exact bad (flB (FLR_tr hf (qRc_c y5) (qRr_u y6)))
  have hV1 : ENV (atC cw (i + 1)) (atR v (i + 1)) oc kc mc cc := ENV_sx g4 s1 s2 (fun A l z => decide_eq_false (by omega)) (fun A l z => decide_eq_false (by omega))
  by_cases ew : w < 4
  · have h258 := e258 (n := n) (b := 211) hP1 (by decide)
    by_cases eno : K (i + 1) = 211
    · rw [if_pos eno] at h258
      rw [if_pos eno] at h100
      have hP2 := PSI_s hP1 (by omega)
      have s3 : sx (qRc rc U) cw (atC (atC cw (i + 1)) (i + 1 + 1)) := sx_pI s1 (decide_eq_true (by omega))
      have s4 : sx (qRr rr) v (atR (atR v (i + 1)) (i + 1 + 1)) := sx_pI s2 (decide_eq_true (by omega))
      have hG2 : RWG (atC (atC cw (i + 1)) (i + 1 + 1)) (atR (atR v (i + 1)) (i + 1 + 1)) oc kc rc rr U k w := by
        have hh : ∀ (y : cS) (p q : Nat), atC (atC y p) q = atC y q := fun y p q => by
          refine Prod.ext (funext fun A => funext fun l => ?_) rfl
          show (atC (atC y p) q).1 A l = (atC y q).1 A l
          unfold atC
          rw [rI, rI, rI]
          by_cases e : A = 145 ∧ l = 7
          · rw [if_pos e, if_pos e]
          · rw [if_neg e, if_neg e, if_neg e]
        have hh2 : ∀ (y : cS) (p q : Nat), atR (atR y p) q = atR y q := fun y p q => by
          refine Prod.ext (funext fun A => funext fun l => ?_) rfl
          show (atR (atR y p) q).1 A l = (atR y q).1 A l
          unfold atR
          rw [rI, rI, rI]
          by_cases e : A = 174 ∧ l = 67
          · rw [if_pos e, if_pos e]
          · rw [if_neg e, if_neg e, if_neg e]
        rw [hh, hh2]
        exact hG1
      refine fin (b := true) (by omega) hP2 (ENV_sx g4 s3 s4 (fun A l z => decide_eq_false (by omega)) (fun A l z => decide_eq_false (by omega))) hG2 s3 s4 (fun _ => ew) (hcls ?_) ?_
      · rw [if_neg (by simp (disch := first | omega | decide) only [↓neg1, nlit, rI, rL, rI2, rL1, nI_add, pk_mul, sbT, dvT, nmd, ixT, ↓ibT, ltT, ltF, leT, leF, eqT, eqF, nM_ltT, nM_ltF, nM_leT, nM_leF, nM_eqF, nM_eqF', nbT0, nbT1, oI_s, oI_n, natF, natT, nltT, nltF, nleT, nleF, ↓reduceIte, lgc, not_true_eq_false, not_false_eq_true, or_false, false_or, or_true, true_or, and_true, true_and, and_false, false_and, ne_eq, eq_self, or_self, and_self]), show d_258 n 211 (atC cw (i + 1)) = some (1, atC (atC cw (i + 1)) (i + 1 + 1)) from h258]
        rfl
      · rw [d397_s, show d_100 n 11 (atR v (i + 1)) = some 1 from h100]
        rw [decide_eq_true ew, hP1.2.2.2.1, nI_1]
        rfl
    · rw [if_neg eno] at h258
      rw [if_neg (by omega)] at h100
      refine fin (b := false) (by omega) hP1 hV1 hG1 s1 s2 (fun _ => ew) (hcls ?_) ?_
      · rw [if_neg (by simp (disch := first | omega | decide) only [↓neg1, nlit, rI, rL, rI2, rL1, nI_add, pk_mul, sbT, dvT, nmd, ixT, ↓ibT, ltT, ltF, leT, leF, eqT, eqF, nM_ltT, nM_ltF, nM_leT, nM_leF, nM_eqF, nM_eqF', nbT0, nbT1, oI_s, oI_n, natF, natT, nltT, nltF, nleT, nleF, ↓reduceIte, lgc, not_true_eq_false, not_false_eq_true, or_false, false_or, or_true, true_or, and_true, true_and, and_false, false_and, ne_eq, eq_self, or_self, and_self]), show d_258 n 211 (atC cw (i + 1)) = some (0, atC cw (i + 1)) from h258]
        rfl
      · rw [d397_s, show d_100 n 11 (atR v (i + 1)) = some 0 from h100]
        rfl
  · by_cases eno : K (i + 1) = 211
    · rw [if_pos eno] at h100
      have h274 : d_274 n (nI rc) (nI w) cw = some (.inr (flC (atC cw (i + 1)) 2 (nI (P (i + 1))))) := by
        refine hcls ?_
        rw [if_pos (by simp (disch := first | omega | decide) only [↓neg1, nlit, rI, rL, rI2, rL1, nI_add, pk_mul, sbT, dvT, nmd, ixT, ↓ibT, ltT, ltF, leT, leF, eqT, eqF, nM_ltT, nM_ltF, nM_leT, nM_leF, nM_eqF, nM_eqF', nbT0, nbT1, oI_s, oI_n, natF, natT, nltT, nltF, nleT, nleF, ↓reduceIte, lgc, not_true_eq_false, not_false_eq_true, or_false, false_or, or_true, true_or, and_true, true_and, and_false, false_and, ne_eq, eq_self, or_self, and_self])]
        unfold m2C
        dsimp only
        have h259 := e259 (n := n) hP1
        rw [if_neg (by omega)] at h259
        rw [h259]
        rfl
      have h397 : d_397 n (nI rr) (nI (aw w)) (bI (decide (w < 4))) (atR v (i + 1)) = some (flt (atR v (i + 1)) 2 (nI (P (i + 1)))) := by
        rw [d397_s, show d_100 n 11 (atR v (i + 1)) = some 1 from h100]
        rw [decide_eq_false ew, e103 hP1]
        rfl
      show jw (mrC n (nI rc) (nI w) (nI k, cw)) _ _
      rw [hCeq h274]
      exact jw_of rfl (hReq h397) (bad (flB (FLR_of atC_sx atR_sx)))
    · rw [if_neg (by omega)] at h100
      refine fin (b := false) (by omega) hP1 hV1 hG1 s1 s2 (fun z => by cases z) (hcls ?_) ?_
      · rw [if_pos (by simp (disch := first | omega | decide) only [↓neg1, nlit, rI, rL, rI2, rL1, nI_add, pk_mul, sbT, dvT, nmd, ixT, ↓ibT, ltT, ltF, leT, leF, eqT, eqF, nM_ltT, nM_ltF, nM_leT, nM_leF, nM_eqF, nM_eqF', nbT0, nbT1, oI_s, oI_n, natF, natT, nltT, nltF, nleT, nleF, ↓reduceIte, lgc, not_true_eq_false, not_false_eq_true, or_false, false_or, or_true, true_or, and_true, true_and, and_false, false_and, ne_eq, eq_self, or_self, and_self])]
        rfl
      · rw [d397_s, show d_100 n 11 (atR v (i + 1)) = some 0 from h100]
        rfl
end ROW
