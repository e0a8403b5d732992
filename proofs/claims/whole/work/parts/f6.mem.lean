/-! READING what stands in a CLASS -/
section CMEM
variable {n i j N k m U tot oc kc mc cc : Nat} {c d u v q w c0 u0 : cS} {K P : Nat → Nat} {V : Nat → Int64}
def cmC (n : Nat) (s7 : Int32 × cS) : Option ((Int32 × cS) ⊕ (cS ⊕ (cS ⊕ cS))) :=
          if 4000 ≤ s7.1 then
            some (.inr (.inl s7.2))
          else
            Option.bind (d_43 n s7.2) (fun v8 =>
            jn (fun p9 : Unit =>
              Option.bind (d_43 n s7.2) (fun v10 =>
              jn (fun p11 : cS =>
                lt (s7.1 + 1 : Int32) (fun v13 =>
                some (.inl (v13, p11))))
              (fun j110 =>
              if v10 = 203 then
                Option.bind (d_270 n s7.2) (Sum.elim (fun r30 =>
                j110 r30)
                (fun z31 => some (.inr (.inr (.inr z31)))))
              else
                mtJ n j110 s7.2)))
            (fun j52 =>
            if v8 = 203 then
              j52 ()
            else
              Option.bind (d_43 n s7.2) (fun v32 =>
              if v32 = 204 then
                j52 ()
              else
                some (.inr (.inl s7.2)))))
/-- the METHODS and FIELDS that stand in CLASS k -/
def CMI (K P : Nat → Nat) (V : Nat → Int64) (N : Nat) (c0 u0 : cS) (oc kc mc k i : Nat) (d v : cS) : Prop := ∃ U tot, CLV K P V N d v oc kc mc (k + 1) U tot i ∧ d.1 145 8 = nI k ∧ sx QRc c0 d ∧ sx QRu u0 v
theorem srt_f {u : cS} (hf : fM u k < 8) : srt (k + 1) u (100 * k + 1 + fM u k) = none := by
  unfold srt
  rw [if_neg (by omega), if_neg (by omega), if_pos (by omega), show (100 * k + 1 + fM u k) / 100 = k by omega, if_neg (by omega)]
theorem srt_q {u : cS} {p : Nat} (hq : qM u k < 8) (h1 : 100 * k + 20 + 10 * qM u k ≤ p) (h2 : p ≤ 100 * k + 20 + 10 * qM u k + 4) : srt (k + 1) u p = none := by
  unfold srt
  rw [if_neg (by omega), if_neg (by omega), if_neg (by omega), show p / 100 = k by omega, if_pos (Or.inl (by omega))]
theorem mem_lps (hn : 10000 ≤ n) (h : CMI K P V N c0 u0 oc kc mc k i w v) : jw (whl (cmC n) n (0, w)) (whl (cbR n (nI k)) n (1, v)) (fun r q => (∃ d i', r = .inl d ∧ i ≤ i' ∧ CMI K P V N c0 u0 oc kc mc k i' d q) ∨ (∃ z, r = .inr (.inr z) ∧ FLR c0 u0 z q)) := by
  obtain ⟨U0, tot0, hC0, -⟩ := id h
  have hN := hC0.1.1.1
  refine jw_whf (fun m (s : Int32 × cS) (t : Int32 × cS) => ∃ i' x, s.1 = nI x ∧ t.1 = 1 ∧ x ≤ i' ∧ i ≤ i' ∧ m = N - i' ∧ CMI K P V N c0 u0 oc kc mc k i' s.2 t.2) ?_ n n (N - i) _ _ (by omega) (by omega) ⟨i, 0, rfl, rfl, by omega, Nat.le_refl _, rfl, h⟩
  rintro m ⟨s1, w'⟩ ⟨t1, v'⟩ ⟨i', x, g1, g2, g3, g4, g5, g6⟩
  dsimp only at g1 g2 g6
  subst g1 g2
  obtain ⟨U, tot, p1, p2, p3, p4⟩ := id g6
  have hP := p1.1
  have hkK := PSI_K hP
  have hk : k < 12 := by
    have := p1.2.2.1.2.2.2.1
    omega
  have h43 := e43 (n := n) hP
  have h3 := e102 (n := n) (b := 3) hP (by decide)
  have h4 := e102 (n := n) (b := 4) hP (by decide)
  have hV := CLV_V p1
  obtain ⟨-, -, -, ⟨q1, q2, q3, q4⟩, ⟨q5, q6, q7⟩, q8, -, q10, q11⟩ := id p1
  obtain ⟨-, ⟨f1, f2, f3, f4, -⟩, ⟨m1, m2, m3, m4⟩⟩ := q8 k (by omega)
  have bad : ∀ {z q : cS}, FLR w' v' z q → ∀ {R : (cS ⊕ (cS ⊕ cS)) → cS → Prop}, (∀ z q, FLR c0 u0 z q → R (.inr (.inr z)) q) → (∃ r t' q', (Sum.inr (Sum.inr (Sum.inr z)) : (Int32 × cS) ⊕ (cS ⊕ (cS ⊕ cS))) = .inr r ∧ (Sum.inl ((1 : Int32), q) : (Int32 × cS) ⊕ cS) = .inl t' ∧ cbR n (nI k) t' = some (.inr q') ∧ R r q') := fun {z q} hf {R} hR => by
    refine ⟨_, _, q, rfl, rfl, ?_, hR z q (FLR_tr hf p3 p4)⟩
    unfold cbR
    exact eq_wp (wpf (show ¬ (1 : Int32) = 0 by decide) (wpf (ne13 hf.2.2.1) rfl))
  by_cases e3 : K i' = 203
  · rw [if_pos (by omega)] at h3
    have hlt := PSI_lt hP (by omega)
    have hR : ∀ {s : cS}, d_404 n (nI k) (atR v' (i' + 1)) = some s → cbR n (nI k) (1, v') = some (.inl (1, s)) := fun {s} h => by
      unfold cbR
      exact eq_wp (wpf (show ¬ (1 : Int32) = 0 by decide) (wpt hP.2.2.2.2 (wpe h3 (wpf (show ¬ (1 : Int32) = 0 by decide) (wpe h rfl)))))
    have hC : ∀ {r : cS ⊕ cS} {Q : ((Int32 × cS) ⊕ (cS ⊕ (cS ⊕ cS))) → Prop}, d_270 n w' = some r → wp ((Sum.elim (fun p11 : cS =>
                lt (nI x + 1 : Int32) (fun v13 =>
                some (.inl (v13, p11))))
                (fun z31 : cS => some (.inr (.inr (.inr z31)))) r : Option ((Int32 × cS) ⊕ (cS ⊕ (cS ⊕ cS))))) Q → wp (cmC n (nI x, w')) Q := fun {r Q} h1 h2 => by
      unfold cmC
      dsimp only
      exact wpf (by simp (disch := first | omega | decide) only [↓neg1, nlit, rI, rL, rI2, rL1, nI_add, pk_mul, sbT, dvT, nmd, ixT, ↓ibT, ltT, ltF, leT, leF, eqT, eqF, nM_ltT, nM_ltF, nM_leT, nM_leF, nM_eqF, nM_eqF', nbT0, nbT1, oI_s, oI_n, natF, natT, nltT, nltF, nleT, nleF, ↓reduceIte, lgc, not_true_eq_false, not_false_eq_true, or_false, false_or, or_true, true_or, and_true, true_and, and_false, false_and, ne_eq, eq_self, or_self, and_self]) (wpe h43 (wpj (wpt (by rw [e3]; rfl) (wpe h43 (wpj (wpt (by rw [e3]; rfl) (wpe h1 h2)))))))
    obtain ⟨r, s, y1, y2, y3⟩ := jw_ex (fld_go (n := n) (U := U) hn hk f1 hP e3 p2 f2 f3 (fun j hj => (f4 j hj).1) hV q4 q1 q2 q3 (fun z => q10 _ (by omega) (srt_f z)))
    rcases y3 with ⟨d, i2, m', rfl, z1, z2, z3, z4, z5, z6, z7, z8, z9, z10, z11, z12, z13⟩ | ⟨z, rfl, hf⟩
    · have hN2 := z3.2.1
      refine hC y1 (wpSl (wpl ?_))
      dsimp only
      rw [nI_1]
      refine wp_of rfl (wp_of (hR y2) (Or.inl ⟨_, _, N - i2, rfl, rfl, by omega, i2, x + 1, rfl, rfl, by omega, by omega, rfl, U + m', tot, CLV_f p1 z1 z3 z2 z4 z5 z6 z7 z8 z9 z10 z11 z12 z13, ?_, sx_trans p3 (qFc_c z12), sx_trans p4 (qFu_u z13)⟩))
      rw [z12.1 _ _ (decide_eq_false (by omega))]
      exact p2
    · exact hC y1 (wpSr (wp_of rfl (wp_of (hR y2) (Or.inr (Or.inr (bad hf (fun z q h => Or.inr ⟨z, rfl, h⟩)))))))
  rw [if_neg (by omega)] at h3
  by_cases e4 : K i' = 204
  · rw [if_pos (by omega)] at h4
    have hlt := PSI_lt hP (by omega)
    have hR : ∀ {s : cS}, d_405 n (nI k) (atR v' (i' + 1)) = some s → cbR n (nI k) (1, v') = some (.inl (1, s)) := fun {s} h => by
      unfold cbR
      exact eq_wp (wpf (show ¬ (1 : Int32) = 0 by decide) (wpt hP.2.2.2.2 (wpe h3 (wpt rfl (wpe h4 (wpf (show ¬ (1 : Int32) = 0 by decide) (wpe h rfl)))))))
    have hne : ¬ nI (K i') = 203 := fun z => e3 ((nI_eq (by omega) (by decide)).mp (show _ = nI 203 from z))
    have hC : ∀ {Q : ((Int32 × cS) ⊕ (cS ⊕ (cS ⊕ cS))) → Prop}, wp (mtJ n (fun p11 : cS =>
                lt (nI x + 1 : Int32) (fun v13 =>
                some (.inl (v13, p11)))) w') Q → wp (cmC n (nI x, w')) Q := fun {Q} h => by
      unfold cmC
      dsimp only
      exact wpf (by simp (disch := first | omega | decide) only [↓neg1, nlit, rI, rL, rI2, rL1, nI_add, pk_mul, sbT, dvT, nmd, ixT, ↓ibT, ltT, ltF, leT, leF, eqT, eqF, nM_ltT, nM_ltF, nM_leT, nM_leF, nM_eqF, nM_eqF', nbT0, nbT1, oI_s, oI_n, natF, natT, nltT, nltF, nleT, nleF, ↓reduceIte, lgc, not_true_eq_false, not_false_eq_true, or_false, false_or, or_true, true_or, and_true, true_and, and_false, false_and, ne_eq, eq_self, or_self, and_self]) (wpe h43 (wpj (wpf hne (wpe h43 (wpt (by rw [e4]; rfl) (wpe h43 (wpj (wpf hne h))))))))
    rcases mth_go (n := n) (fun p11 : cS => lt (nI x + 1 : Int32) (fun v13 => some (.inl (v13, p11)))) (q := qM v' k) (M := 8 * k + qM v' k) (p0 := 100 * k + 20 + 10 * qM v' k) (U := U) (tot := tot) (W0 := wgM v' 96) hn hk m1 rfl rfl hP e4 p2 m2 m3 (fun j hj => by
      obtain ⟨t, L, na, a0, -, x2⟩ := m4 j hj
      rw [Nat.mul_comm k 8]
      exact x2.1) q5 hV q4 q1 q2 q3 (fun z r r1 r2 => q10 _ (by omega) (srt_q z r1 r2)) q11 q6 q7 with ⟨d, s, y1, y2, i2, t, L, na, U2, z1, z2, z3, z4, z5, z6, z7, z8, z9, z10, z11, z12, ⟨z13, z14, z15⟩, z16, z17, z18, z19, z20⟩ | ⟨z, s, y1, y2, hf⟩
    · have hN2 := z3.2.1
      refine hC (y1 _ (wpl ?_))
      dsimp only
      rw [nI_1]
      exact wp_of rfl (wp_of (hR y2) (Or.inl ⟨_, _, N - i2, rfl, rfl, by omega, i2, x + 1, rfl, rfl, by omega, by omega, rfl, U2, tot + na, CLV_m p1 rfl rfl rfl z1 z2 z3 z4 z5 z6 z7 z8 z10 z11 z12 z13 z14 z15 z17 z18 z19 z20, z9, sx_trans p3 (qTc_c z19), sx_trans p4 (qTu_u z20)⟩))
    · exact hC (wp_of y1 (wp_of (hR y2) (Or.inr (Or.inr (bad hf (fun z q h => Or.inr ⟨z, rfl, h⟩))))))
  rw [if_neg (by omega)] at h4
  refine jw_of (a := .inr (.inl w')) (b := .inl (0, v')) ?_ ?_ (Or.inr (Or.inr ⟨_, _, v', rfl, rfl, rfl, Or.inl ⟨w', i', rfl, g4, g6⟩⟩))
  · unfold cmC
    dsimp only
    by_cases e40 : (4000 : Int32) ≤ nI x
    · exact eq_wp (wpt e40 rfl)
    · exact eq_wp (wpf e40 (wpe h43 (wpj (wpf (fun z => e3 ((nI_eq (by omega) (by decide)).mp (show _ = nI 203 from z))) (wpe h43 (wpf (fun z => e4 ((nI_eq (by omega) (by decide)).mp (show _ = nI 204 from z))) rfl))))))
  · unfold cbR
    exact eq_wp (wpf (show ¬ (1 : Int32) = 0 by decide) (wpt hP.2.2.2.2 (wpe h3 (wpt rfl (wpe h4 (wpt rfl rfl))))))
end CMEM
