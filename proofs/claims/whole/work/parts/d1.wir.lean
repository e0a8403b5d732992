/-! wire: class and reference -/
section WIR
variable {n k x : Nat} {c w m u v : cS} {S : Nat → Nat}
def qWu (A i : Nat) : Bool := qWs A i || decide (A = 174 ∧ (i = 0 ∨ i = 130))
theorem c_wire0 (h1 : c.1 7 0 = nI 0) (h2 : u.1 174 14 = nI 0) : bo (d_88 n c) (d_143 n u) (fun d w => d = c ∧ w = pI u 174 0 0) := by
  unfold bo d_88
  refine wpj (wpt h1 ?_)
  unfold d_143
  refine wpl (wpt ?_ ⟨rfl, rfl, rfl⟩)
  rw [rI, if_neg (by omega)]
  exact h2
/-- the second loop of the reference -/
def loR (n : Nat) (s43 : Int32 × cS) : Option ((Int32 × cS) ⊕ cS) :=
        if (s43.2.1 174 37) ≤ s43.1 then
          some (.inr s43.2)
        else
          if (s43.2.1 174 131) = 0 then
            if ib s43.1 12 then
            jn (fun p45 : cS =>
              lt (s43.1 + 1 : Int32) (fun v47 =>
              some (.inl (v47, p45))))
            (fun j189 =>
            if (s43.2.1 264 (ix s43.1)) = 0 then
              j189 s43.2
            else
              if ib s43.1 12 then
              if (s43.2.1 262 (ix s43.1)) = 0 then
                Option.bind (d_478 (d_479 160 n) n s43.1 s43.2) (fun r50 =>
                j189 r50)
              else
                j189 s43.2
              else none)
            else none
          else
            some (.inr s43.2)
def loC (n : Nat) (v4 : Int32) (s8 : Int32 × Int32 × cS) : Option ((Int32 × Int32 × cS) ⊕ (Int32 × cS)) :=
    if (s8.2.2.1 7 10) ≤ s8.2.1 then
      some (.inr (s8.1, s8.2.2))
    else
      if s8.1 = 0 then
        if ib s8.2.1 12 then
        jn (fun p10 : Int32 × cS =>
          lt (s8.2.1 + 1 : Int32) (fun v12 =>
          some (.inl (p10.1, v12, p10.2))))
        (fun j66 =>
        if (s8.2.2.1 168 (ix s8.2.1)) = 0 then
          j66 (s8.1, s8.2.2)
        else
          if ib s8.2.1 12 then
          if (s8.2.2.1 170 (ix s8.2.1)) = 0 then
            Option.bind (d_347 30 n s8.2.1 v4 0 s8.2.2) (fun r15 =>
            j66 (r15.1, r15.2))
          else
            j66 (s8.1, s8.2.2)
          else none)
        else none
      else
        some (.inr (s8.1, s8.2.2))
theorem d143_s : d_143 n u = lt (pI u 174 0 0) (fun c1 =>
  if (c1.1 174 14) = 0 then
    some ((-1), c1)
  else
    lt (pI c1 174 130 1) (fun c3 =>
    lt (pI c3 174 131 0) (fun c5 =>
    lt (pI c5 174 132 (-1)) (fun c7 =>
    lt (pI c7 174 133 (-1)) (fun c9 =>
    lt (pI c9 174 134 0) (fun c11 =>
    Option.bind (d_373 n 1885434484 c11) (fun v13 =>
    Option.bind (seR n v13 c11)
    (fun x41 : cS =>
      Option.bind (whl (loR n) n (0, x41))
      (fun x51 : cS =>
        some ((x51.1 174 131), x51))))))))))  := rfl
theorem d343_s : d_343 n c = Option.bind (d_53 n c) (fun r1 =>
  Option.bind (d_344 n r1) (fun r2 =>
  Option.bind (d_351 n 43) (fun v3 =>
  Option.bind (d_248 n v3 r2) (fun v4 =>
  Option.bind (whl (loC n v4) n (0, 0, r2))
  (fun x17 : Int32 × cS =>
    some (x17.1, x17.2)))))) := rfl
/-- all parts, in lockstep -/
theorem wir_lp (hn : 1000 ≤ n) (hN : CN m) (hE : EC w m) (hA : AG m v) (h : WR m w v (fun _ => 0) 0) (hv : v.1 174 131 = nI 0) : jw (whl (loC n (oI (kOf m 2002873972))) n (0, 0, w)) (whl (loR n) n (0, v)) (fun r q => ∃ S k, WR m r.2 q S k ∧ q.1 174 131 = r.1 ∧ sx qWc w r.2 ∧ sx qWs v q) := by
  have hC := hE.2.2.1
  obtain ⟨h12, hp⟩ := CCS_p hC
  have c7 : ∀ {d}, sx qWc w d → d.1 7 10 = nI (ccn m) := fun hd => (hd.1 7 10 (by decide)).trans hC.1.2.1
  have v37 : ∀ {d}, sx qWs v d → d.1 174 37 = nI (ccn m) := fun hd => (hd.1 174 37 (by decide)).trans ((hA.2.2.1 37 rfl).trans hC.1.2.2.1)
  refine jw_whl (fun μ (a : Int32 × Int32 × cS) (b : Int32 × cS) => ∃ i S k, i ≤ ccn m ∧ μ = ccn m - i ∧ a.2.1 = nI i ∧ b.1 = nI i ∧ WR m a.2.2 b.2 S k ∧ b.2.1 174 131 = a.1 ∧ (a.1 = nI 0 → ∀ x, S x ≠ 1) ∧ sx qWc w a.2.2 ∧ sx qWs v b.2) ?_ n n (ccn m) _ _ (by omega) (by omega) ⟨0, fun _ => 0, 0, by omega, by omega, rfl, rfl, h, hv, (fun _ x z => absurd (show (0 : Nat) = 1 from z) (by decide)), sx_rfl, sx_rfl⟩
  rintro μ ⟨r, i0, w1⟩ ⟨j0, v1⟩ ⟨i, S, k, g1, g2, g3, g4, g5, g6, g7, g8, g9⟩
  dsimp only at g3 g4 g5 g6 g7 g8 g9
  subst g3 g4
  unfold jw loC
  dsimp only
  rw [c7 g8]
  have hR : ∀ {K}, (nI (ccn m) ≤ nI i ∨ r ≠ nI 0) → K (Sum.inr v1) → wp (loR n (nI i, v1)) K := fun {K} z hK => by
    unfold loR
    dsimp only
    rw [v37 g9]
    by_cases e : nI (ccn m) ≤ nI i
    · exact wpt e hK
    · refine wpf e (wpf (fun z' => ?_) hK)
      exact z.elim e (fun z => z (g6.symm.trans z'))
  by_cases e1 : ccn m = i
  · refine wpt (by rw [e1]; simp (disch := first | omega | decide) only [↓neg1, nlit, rI, rL, rI2, rL1, nI_add, pk_mul, sbT, dvT, nmd, ixT, ↓ibT, ltT, ltF, leT, leF, eqT, eqF, nM_ltT, nM_ltF, nM_leT, nM_leF, nM_eqF, nM_eqF', nbT0, nbT1, oI_s, oI_n, natF, natT, nltT, nltF, nleT, nleF, ↓reduceIte, lgc, not_true_eq_false, not_false_eq_true, or_false, false_or, or_true, true_or, and_true, true_and, and_false, false_and, ne_eq, eq_self, or_self, and_self]) (hR (Or.inl (by rw [e1]; simp (disch := first | omega | decide) only [↓neg1, nlit, rI, rL, rI2, rL1, nI_add, pk_mul, sbT, dvT, nmd, ixT, ↓ibT, ltT, ltF, leT, leF, eqT, eqF, nM_ltT, nM_ltF, nM_leT, nM_leF, nM_eqF, nM_eqF', nbT0, nbT1, oI_s, oI_n, natF, natT, nltT, nltF, nleT, nleF, ↓reduceIte, lgc, not_true_eq_false, not_false_eq_true, or_false, false_or, or_true, true_or, and_true, true_and, and_false, false_and, ne_eq, eq_self, or_self, and_self])) (Or.inr ⟨_, _, rfl, rfl, S, k, g5, g6, g8, g9⟩))
  · refine wpf (by simp (disch := first | omega | decide) only [↓neg1, nlit, rI, rL, rI2, rL1, nI_add, pk_mul, sbT, dvT, nmd, ixT, ↓ibT, ltT, ltF, leT, leF, eqT, eqF, nM_ltT, nM_ltF, nM_leT, nM_leF, nM_eqF, nM_eqF', nbT0, nbT1, oI_s, oI_n, natF, natT, nltT, nltF, nleT, nleF, ↓reduceIte, lgc, not_true_eq_false, not_false_eq_true, or_false, false_or, or_true, true_or, and_true, true_and, and_false, false_and, ne_eq, eq_self, or_self, and_self]) ?_
    by_cases e2 : r = nI 0
    · subst e2
      have hib : ib (nI i) 12 := by simp (disch := first | omega | decide) only [↓neg1, nlit, rI, rL, rI2, rL1, nI_add, pk_mul, sbT, dvT, nmd, ixT, ↓ibT, ltT, ltF, leT, leF, eqT, eqF, nM_ltT, nM_ltF, nM_leT, nM_leF, nM_eqF, nM_eqF', nbT0, nbT1, oI_s, oI_n, natF, natT, nltT, nltF, nleT, nleF, ↓reduceIte, lgc, not_true_eq_false, not_false_eq_true, or_false, false_or, or_true, true_or, and_true, true_and, and_false, false_and, ne_eq, eq_self, or_self, and_self]
      have iN : ix (nI i) = i := ix_n (by omega)
      obtain ⟨s1, s2, -, s4, s5, -, -, s8⟩ := g5.1 i (by omega)
      have hRs : ∀ {K : (Int32 × cS) ⊕ cS → Prop} {y}, (prt m i = true → S i = 0 → d_478 (d_479 160 n) n (nI i) v1 = some y) → (¬ (prt m i = true ∧ S i = 0) → y = v1) → K (Sum.inl (nI (i + 1), y)) → wp (loR n (nI i, v1)) K := fun {K y} z1 z2 hK => by
        unfold loR
        dsimp only
        rw [v37 g9]
        rw [← nI_1] at hK
        refine wpf (by simp (disch := first | omega | decide) only [↓neg1, nlit, rI, rL, rI2, rL1, nI_add, pk_mul, sbT, dvT, nmd, ixT, ↓ibT, ltT, ltF, leT, leF, eqT, eqF, nM_ltT, nM_ltF, nM_leT, nM_leF, nM_eqF, nM_eqF', nbT0, nbT1, oI_s, oI_n, natF, natT, nltT, nltF, nleT, nleF, ↓reduceIte, lgc, not_true_eq_false, not_false_eq_true, or_false, false_or, or_true, true_or, and_true, true_and, and_false, false_and, ne_eq, eq_self, or_self, and_self]) (wpt g6 (wpt hib (wpj ?_)))
        by_cases q1 : prt m i = true
        · refine wpf (show ¬ v1.1 264 (ix (nI i)) = 0 from ?_) (wpt hib ?_)
          · rw [iN, s5, if_pos q1]
            decide
          by_cases q2 : S i = 2
          · refine wpf (show ¬ v1.1 262 (ix (nI i)) = 0 from ?_) ?_
            · rw [iN, s8, if_pos q2]
              decide
            rw [z2 (by omega)] at hK
            exact hK
          · have q3 := g7 rfl i
            refine wpt (show v1.1 262 (ix (nI i)) = 0 from ?_) (wpe (z1 q1 (by omega)) hK)
            rw [iN, s8, if_neg q2]
            rfl
        · refine wpt (show v1.1 264 (ix (nI i)) = 0 from ?_) ?_
          · rw [iN, s5, if_neg q1]
            rfl
          rw [z2 (fun z => q1 z.1)] at hK
          exact hK
      refine wpt rfl (wpt hib (wpj ?_))
      have hstay : ¬ (prt m i = true ∧ S i = 0) → wp (loR n (nI i, v1)) (fun q => (∃ s' t' m', (Sum.inl (nI 0, nI i + 1, w1) : (Int32 × Int32 × cS) ⊕ (Int32 × cS)) = Sum.inl s' ∧ q = Sum.inl t' ∧ m' < μ ∧ ∃ i S k, i ≤ ccn m ∧ m' = ccn m - i ∧ s'.2.1 = nI i ∧ t'.1 = nI i ∧ WR m s'.2.2 t'.2 S k ∧ t'.2.1 174 131 = s'.1 ∧ (s'.1 = nI 0 → ∀ x, S x ≠ 1) ∧ sx qWc w s'.2.2 ∧ sx qWs v t'.2) ∨ (∃ r q', (Sum.inl (nI 0, nI i + 1, w1) : (Int32 × Int32 × cS) ⊕ (Int32 × cS)) = Sum.inr r ∧ q = Sum.inr q' ∧ ∃ S k, WR m r.2 q' S k ∧ q'.1 174 131 = r.1 ∧ sx qWc w r.2 ∧ sx qWs v q')) := fun z =>
        hRs (y := v1) (fun z1 z2 => absurd ⟨z1, z2⟩ z) (fun _ => rfl) (Or.inl ⟨_, _, ccn m - (i + 1), rfl, rfl, by omega, i + 1, S, k, by omega, rfl, nI_1 i, rfl, g5, g6, g7, g8, g9⟩)
      by_cases q1 : prt m i = true
      · refine wpf (show ¬ w1.1 168 (ix (nI i)) = 0 from ?_) (wpt hib ?_)
        · rw [iN, s2, if_pos q1]
          decide
        by_cases q2 : S i = 0
        · have hz : c0n m S ≤ 12 := by
            have := cntN_le (p := fun i => decide (S i = 0)) (ccn m)
            unfold c0n
            omega
          obtain ⟨rr, v2, a1, a2, S2, k2, b1, b2, b3, b4, b5, b6⟩ := jw_ex (mk_go hn hN 12 (e := 30) (E := 160) (a3 := 0) (x := i) (by omega) q2 hz (by omega) (by omega) (by omega) (EC_CA (CA_sx g8 nC_Wc) hE) (AG_sx hA g9 nP_Ws) g5 g6)
          refine wpt (show w1.1 170 (ix (nI i)) = 0 from ?_) (wpe a1 (wpl ?_))
          · rw [iN, s4, q2]
            rfl
          refine hRs (y := v2) (fun _ _ => a2) (fun z => absurd ⟨q1, q2⟩ z) (Or.inl ⟨_, _, ccn m - (i + 1), rfl, rfl, by omega, i + 1, S2, k2, by omega, rfl, nI_1 i, rfl, b1, b2, fun z x hx => ?_, sx_trans g8 b4, sx_trans g9 b5⟩)
          exact g7 rfl x (b3.2 z x hx)
        · refine wpf (show ¬ w1.1 170 (ix (nI i)) = 0 from ?_) (wpl (hstay (fun z => q2 z.2)))
          rw [iN, s4]
          exact fun z => q2 ((nI_eq (by omega) (by decide)).mp (show _ = nI 0 from z))
      · refine wpt (show w1.1 168 (ix (nI i)) = 0 from ?_) (wpl (hstay (fun z => q1 z.1)))
        rw [iN, s2, if_neg q1]
        rfl
    · exact wpf e2 (hR (Or.inr e2) (Or.inr ⟨_, _, rfl, rfl, S, k, g5, g6, g8, g9⟩))
theorem c_wire (hn : 1000 ≤ n) (hN : CN m) (hE : EC c m) (hA : AG m u) (h1 : c.1 7 0 ≠ nI 0) (h2 : u.1 174 14 ≠ nI 0) : bo (d_88 n c) (d_143 n u) (fun d w => WRD d w ∧ sx qWc c d ∧ sx qWu u w) := by
  obtain ⟨k1, k2, k3, k4, -⟩ := id hE.2.1
  have hC := hE.2.2.1
  obtain ⟨h12, hp⟩ := CCS_p hC
  have sc : sx qWc c (pI (pI (pI c 167 7 0) 167 8 (-1)) 167 9 (-1)) := sx_pI (sx_pI (sx_pI sx_rfl (by decide)) (by decide)) (by decide)
  have su : sx qWu u (pI (pI (pI (pI (pI (pI u 174 0 0) 174 130 1) 174 131 0) 174 132 (-1)) 174 133 (-1)) 174 134 0) := sx_pI (sx_pI (sx_pI (sx_pI (sx_pI (sx_pI sx_rfl (by decide)) (by decide)) (by decide)) (by decide)) (by decide)) (by decide)
  have nPu : nP qWu := by
    obtain ⟨z1, z2, z3, z4, z5⟩ := nP_Ws
    refine ⟨fun a i h => ?_, fun i h => ?_, fun i h => ?_, fun a i h1 h2 h3 => ?_, fun a i h1 h2 h3 => ?_⟩
    · have := PA_of h
      exact Bool.or_eq_false_iff.mpr ⟨z1 a i h, decide_eq_false (by omega)⟩
    · have := PF_of h
      exact Bool.or_eq_false_iff.mpr ⟨z2 i h, decide_eq_false (by omega)⟩
    · exact Bool.or_eq_false_iff.mpr ⟨z3 i h, decide_eq_false (by omega)⟩
    · exact Bool.or_eq_false_iff.mpr ⟨z4 a i h1 h2 h3, decide_eq_false (by omega)⟩
    · exact Bool.or_eq_false_iff.mpr ⟨z5 a i h1 h2 h3, decide_eq_false (by omega)⟩
  have hE0 := EC_CA (CA_sx sc nC_Wc) hE
  have hA0 := AG_sx hA su nPu
  have C7 : (pI (pI (pI c 167 7 0) 167 8 (-1)) 167 9 (-1)).1 167 7 = nI 0 ∧ (pI (pI (pI c 167 7 0) 167 8 (-1)) 167 9 (-1)).1 167 8 = nM ∧ (pI (pI (pI c 167 7 0) 167 8 (-1)) 167 9 (-1)).1 167 9 = nM := by
    refine ⟨?_, ?_, ?_⟩
    · rw [rI, if_neg (by omega), rI, if_neg (by omega), rI, if_pos ⟨rfl, rfl⟩]
      rfl
    · rw [rI, if_neg (by omega), rI, if_pos ⟨rfl, rfl⟩]
      rfl
    · rw [rI, if_pos ⟨rfl, rfl⟩]
      rfl
  have U7 : ∀ U, U = pI (pI (pI (pI (pI (pI u 174 0 0) 174 130 1) 174 131 0) 174 132 (-1)) 174 133 (-1)) 174 134 0 → U.1 174 131 = nI 0 ∧ U.1 174 132 = nM ∧ U.1 174 133 = nM ∧ U.1 174 134 = nI 0 ∧ U.1 174 130 = nI 1 := by
    rintro U rfl
    refine ⟨?_, ?_, ?_, ?_, ?_⟩
    · rw [rI, if_neg (by omega), rI, if_neg (by omega), rI, if_neg (by omega), rI, if_pos ⟨rfl, rfl⟩]
      rfl
    · rw [rI, if_neg (by omega), rI, if_neg (by omega), rI, if_pos ⟨rfl, rfl⟩]
      rfl
    · rw [rI, if_neg (by omega), rI, if_pos ⟨rfl, rfl⟩]
      rfl
    · rw [rI, if_pos ⟨rfl, rfl⟩]
      rfl
    · rw [rI, if_neg (by omega), rI, if_neg (by omega), rI, if_neg (by omega), rI, if_neg (by omega), rI, if_pos ⟨rfl, rfl⟩]
      rfl
  have U7 := U7 _ rfl
  unfold bo d_88
  refine wpj (wpf h1 ?_)
  rw [d343_s]
  refine wpc (K' := fun r : Int32 × cS => wp (d_143 n u) (fun q : Int32 × cS => r.1 = q.1 ∧ WRD r.2 q.2 ∧ sx qWc c r.2 ∧ sx qWu u q.2)) ?_ (fun r hr => hr)
  refine wpe (show d_53 n c = some _ from rfl) ?_
  generalize pI (pI (pI c 167 7 0) 167 8 (-1)) 167 9 (-1) = c3 at *
  refine wpc (e344 hn hE0) (fun w hw => ?_)
  obtain ⟨w1, w2⟩ := hw
  have sw : sx qWc c w := sx_trans sc (sx_wide w2 (fun a i z => by
    have := of_decide_eq_false z
    exact decide_eq_false (by omega)))
  have hEw := EC_CA (CA_sx sw nC_Wc) hE
  obtain ⟨j1, j2, j3, j4, -⟩ := id hEw.2.1
  refine wpe (w43 hn) (wpe (e248 (by omega) j1 j2 (fun k hk => (j4 k hk).1)) ?_)
  show jw (Option.bind (whl (loC n (oI (kOf m 2002873972))) n (0, 0, w)) (fun x17 : Int32 × cS => some (x17.1, x17.2))) (d_143 n u) (fun r q => r.1 = q.1 ∧ WRD r.2 q.2 ∧ sx qWc c r.2 ∧ sx qWu u q.2)
  refine jw_swap ?_
  unfold jw
  rw [d143_s]
  refine wpl (wpf ?_ (wpl (wpl (wpl (wpl (wpl ?_))))))
  · rw [rI, if_neg (by omega)]
    exact h2
  generalize pI (pI (pI (pI (pI (pI u 174 0 0) 174 130 1) 174 131 0) 174 132 (-1)) 174 133 (-1)) 174 134 0 = u3 at *
  refine wpe (e373 (by omega) hA0 k1 k3) (wpc (eSR hn hA0 hE) (fun v hv => ?_))
  obtain ⟨v1, v2⟩ := hv
  have sv : sx qWu u v := sx_trans su (sx_wide v2 (fun a i z => by
    have := of_decide_eq_false (Bool.or_eq_false_iff.mp z).1
    exact decide_eq_false (by omega)))
  have V : ∀ i, 130 ≤ i → i ≤ 134 → v.1 174 i = u3.1 174 i := fun i z1 z2 => v2.1 174 i (decide_eq_false (by omega))
  have hW : WR m w v (fun _ => 0) 0 := by
    refine ⟨fun x hx => ?_, (w2.1 167 7 (by decide)).trans C7.1, (V 134 (by omega) (by omega)).trans U7.2.2.2.1, ?_, fun i hi => absurd hi (Nat.not_lt_zero _), ?_, ?_⟩
    · obtain ⟨a1, a2, a3⟩ := w1 x hx
      obtain ⟨b1, b2, b3, b4⟩ := v1 x hx
      exact ⟨Nat.zero_le _, a1, a2, a3, b3, b4, b2, b1⟩
    · have := cnt_cg (p := fun i => decide ((0 : Nat) = 2)) (q := fun i => false) (ccn m) (fun i _ => rfl)
      rw [this]
      have h0 : ∀ N, cntN (fun _ => false) N = 0 := fun N => by
        induction N with
        | zero => rfl
        | succ N ih => rw [cntN_s, ih]; rfl
      rw [h0]
    · rw [w2.1 167 8 (by decide), C7.2.1, V 132 (by omega) (by omega), U7.2.1]
    · rw [w2.1 167 9 (by decide), C7.2.2, V 133 (by omega) (by omega), U7.2.2.1]
  have hlp := wir_lp hn hN hEw (AG_sx hA sv nPu) hW ((V 131 (by omega) (by omega)).trans U7.1)
  obtain ⟨r, q, a1, a2, S, k, b1, b2, b3, b4⟩ := jw_ex hlp
  have hk12 : k ≤ 12 := by
    rw [b1.2.2.2.1]
    exact Nat.le_trans (cntN_le _) h12
  have sq : sx qWu u q := sx_trans sv (sx_wide b4 (fun a i z => (Bool.or_eq_false_iff.mp z).1))
  refine wpe a2 (wpe a1 ⟨b2.symm, Or.inr ⟨?_, ?_, k, hk12, b1.2.1, b1.2.2.1, b1.2.2.2.2.2.1, b1.2.2.2.2.2.2, b1.2.2.2.2.1⟩, sx_trans sw b3, sq⟩)
  · show q.1 174 14 ≠ _
    rw [sq.1 174 14 (by decide)]
    exact h2
  · show q.1 174 130 ≠ _
    rw [b4.1 174 130 (by decide), V 130 (by omega) (by omega), U7.2.2.2.2]
    decide
end WIR
