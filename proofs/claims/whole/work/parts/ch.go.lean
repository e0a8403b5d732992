/-! RUN: go -/
section GO
variable {n fr L : Nat} {c m u : cS} {Mf If : Nat → Nat} {j : Int32}
theorem FD_2 {x v : cS} {r q : Nat → Nat → Bool} (h : FD m c u) (sc : sx r c x) (su : sx q u v) (h1 : ∀ i, r 148 i = false) (h2 : ∀ i, q 235 i = false) : FD m x v := fun p s o hp hs ho => by
  obtain ⟨b1, b2, b3⟩ := h p s o hp hs ho
  have e148 : x.1 148 (p * 4 + o) = c.1 148 (p * 4 + o) := sc.1 148 _ (h1 _)
  have ef : fdv x p o = fdv c p o := congrArg ix e148
  rw [ef]
  exact ⟨b1, e148.trans b2, (su.1 235 _ (h2 _)).trans b3⟩
theorem CKA_G {x v : cS} {M i B : Nat} (h : CKA m c u M i B) (sc : sx qGc c x) (su : sx qGr u v) (hT : ∀ p o, TM m x p o = TM m c p o) : CKA m x v M i B := by
  obtain ⟨h1, h2, h3⟩ := h
  refine ⟨h1, by rw [FC_fa sc nC_Gc, sc.1 126 _ (decide_eq_false (by omega))]; exact h2, fun o k ho hk => ?_⟩
  have e6 : v.1 174 106 = u.1 174 106 := su.1 174 106 rfl
  have e5 : ∀ t, v.1 250 t = u.1 250 t := fun t => su.1 250 t (decide_eq_false (by omega))
  rw [e6, e5, hT]
  exact h3 o k ho hk
theorem e49 : d_49 n c = some (if c.1 162 0 = nI 1 then nI 1 else nI 0) := by
  have i0 : ix (0 : Int32) = 0 := by decide
  unfold d_49
  rw [i0]
  refine eq_wp (wpt (by decide) (wpj ?_))
  by_cases e : c.1 162 0 = nI 1
  · rw [if_pos e]
    exact wpt e (wpt (by decide) rfl)
  · rw [if_neg e]
    exact wpf e (wpt (by decide) rfl)
/-- what go stands on -/
def GOH (m c u : cS) (L : Nat) : Prop := TST m c ∧ AG m u ∧ FD m c u ∧ JI c u ∧ CHK m c u ∧ c.1 162 6 = nI L ∧ L < 2147000000
def GOX (m c u : cS) (L : Nat) (d w : cS) : Prop := JI d w ∧ sx qGc c d ∧ sx qGr u w ∧ ∃ L', L' ≤ L ∧ d.1 162 6 = nI L'
theorem go_lp {N : Nat} (hn : 20000 ≤ n) (hN : N ≤ 10000) (h : GOH m c u L) (hR : RN m c u 1 fr Mf If) : jw (whl (R := (cS)) (fun s6 : Int32 × cS =>
    if nI N ≤ s6.1 then
      some (.inr s6.2)
    else
      Option.bind (d_49 n s6.2) (fun v7 =>
      if v7 = 0 then
        some (.inr s6.2)
      else
        Option.bind (d_303 n s6.2) (fun r8 =>
        lt (s6.1 + 1 : Int32) (fun v10 =>
        some (.inl (v10, r8)))))) n (0, c)) (whl (R := (Int32 × cS)) (fun s5 : Int32 × cS =>
        if nI N ≤ s5.1 then
          some (.inr (s5.1, s5.2))
        else
          if (s5.2.1 174 111) = 1 then
            bdR n s5.1 s5.2
          else
            some (.inr (s5.1, s5.2))) n (0, u)) (fun d q => d.1 162 2 = c.1 162 2 + q.1 ∧ GOX m c u (L + 160000) d q.2 ∧ ∃ st fr Mf If, RN m d q.2 st fr Mf If) := by
  obtain ⟨hT, hA, hF, hJ, hK, hL, hL2⟩ := h
  refine jw_whl (fun μ (s t : Int32 × cS) => ∃ k j, μ = N - k ∧ k ≤ N ∧ j ≤ k ∧ s.1 = nI k ∧ t.1 = nI j ∧ s.2.1 162 2 = c.1 162 2 + nI j ∧ GOX m c u (L + 16 * k) s.2 t.2 ∧ ∃ st fr Mf If, RN m s.2 t.2 st fr Mf If ∧ (st = 1 → j = k)) ?_ n n N (0, c) (0, u) (by omega) (by omega) ⟨0, 0, rfl, by omega, by omega, rfl, rfl, (Int32.add_zero _).symm, ⟨hJ, sx_rfl, sx_rfl, L, by omega, hL⟩, 1, fr, Mf, If, hR, fun _ => rfl⟩
  rintro μ ⟨k0, x⟩ ⟨j0, v⟩ ⟨k, j, g1, g2, g3, g4, g5, g6, g7, st, fr', Mf', If', g8, g9⟩
  dsimp only at g4 g5 g6 g7 g8
  subst g4 g5
  obtain ⟨x1, x2, x3, L', x4, x5⟩ := g7
  have c0 := g8.2.2.1
  have u0 := g8.2.2.2.1
  dsimp only
  have hX : x.1 162 2 = c.1 162 2 + nI j ∧ GOX m c u (L + 160000) x v ∧ ∃ st fr Mf If, RN m x v st fr Mf If := ⟨g6, ⟨x1, x2, x3, L', by omega, x5⟩, st, fr', Mf', If', g8⟩
  have hs := g8.1
  by_cases e1 : st = 1
  · subst e1
    have ej := g9 rfl
    subst ej
    by_cases eN : N ≤ j
    · exact wpt (by simp (disch := first | omega | decide) only [↓neg1, nlit, rI, rL, rI2, rL1, nI_add, pk_mul, sbT, dvT, nmd, ixT, ↓ibT, ltT, ltF, leT, leF, eqT, eqF, nM_ltT, nM_ltF, nM_leT, nM_leF, nM_eqF, nM_eqF', nbT0, nbT1, oI_s, oI_n, natF, natT, nltT, nltF, nleT, nleF, ↓reduceIte, lgc, not_true_eq_false, not_false_eq_true, or_false, false_or, or_true, true_or, and_true, true_and, and_false, false_and, ne_eq, eq_self, or_self, and_self]) (wpt (by simp (disch := first | omega | decide) only [↓neg1, nlit, rI, rL, rI2, rL1, nI_add, pk_mul, sbT, dvT, nmd, ixT, ↓ibT, ltT, ltF, leT, leF, eqT, eqF, nM_ltT, nM_ltF, nM_leT, nM_leF, nM_eqF, nM_eqF', nbT0, nbT1, oI_s, oI_n, natF, natT, nltT, nltF, nleT, nleF, ↓reduceIte, lgc, not_true_eq_false, not_false_eq_true, or_false, false_or, or_true, true_or, and_true, true_and, and_false, false_and, ne_eq, eq_self, or_self, and_self]) (Or.inr ⟨x, (nI j, v), rfl, rfl, hX⟩))
    · refine wpf (by simp (disch := first | omega | decide) only [↓neg1, nlit, rI, rL, rI2, rL1, nI_add, pk_mul, sbT, dvT, nmd, ixT, ↓ibT, ltT, ltF, leT, leF, eqT, eqF, nM_ltT, nM_ltF, nM_leT, nM_leF, nM_eqF, nM_eqF', nbT0, nbT1, oI_s, oI_n, natF, natT, nltT, nltF, nleT, nleF, ↓reduceIte, lgc, not_true_eq_false, not_false_eq_true, or_false, false_or, or_true, true_or, and_true, true_and, and_false, false_and, ne_eq, eq_self, or_self, and_self]) (wpe e49 ?_)
      rw [if_pos c0]
      refine wpf (by decide) ?_
      obtain ⟨hTx, hTM⟩ := TST_sx hT x2 nC_Gc (fun i => decide_eq_false (by omega)) (fun i => decide_eq_false (by omega)) (fun i => decide_eq_false (by omega))
      have hAv := AG_sx hA x3 nP_Gr
      have hFv := FD_2 hF x2 x3 (fun i => decide_eq_false (by omega)) (fun i => decide_eq_false (by omega))
      have hfr := g8.2.1
      obtain ⟨m1, m2, -⟩ := g8.2.2.2.2.2.2.2.2.1 (fr' - 1) (by omega)
      obtain ⟨k6, B, kB⟩ := CKA_of hT.1 hK m1 m2
      have k6' : v.1 174 106 = nI 0 ∨ v.1 174 106 = nI 1 := by
        rw [x3.1 174 106 rfl]
        rcases k6 with z | z
        · exact Or.inl z
        · exact Or.inr z.1
      have hst := step_go (n := n) (j := nI j) (by omega) hTx hAv hFv x1 g8 x5 (by omega) k6' (CKA_G kB x2 x3 hTM)
      obtain ⟨d, p, hd, hp, hdp⟩ := jw_ex hst
      refine wpe hd (wpl ?_)
      refine wp_of rfl (wpf (by simp (disch := first | omega | decide) only [↓neg1, nlit, rI, rL, rI2, rL1, nI_add, pk_mul, sbT, dvT, nmd, ixT, ↓ibT, ltT, ltF, leT, leF, eqT, eqF, nM_ltT, nM_ltF, nM_leT, nM_leF, nM_eqF, nM_eqF', nbT0, nbT1, oI_s, oI_n, natF, natT, nltT, nltF, nleT, nleF, ↓reduceIte, lgc, not_true_eq_false, not_false_eq_true, or_false, false_or, or_true, true_or, and_true, true_and, and_false, false_and, ne_eq, eq_self, or_self, and_self]) (wpt u0 (wp_of hp (Or.inl ?_))))
      obtain ⟨w, ⟨rfl, a1, a2, a3, a4, a5, L2, a6, a7⟩ | ⟨rfl, ⟨st', fr2, Mf2, If2, a1, a8⟩, a2, a3, a4, a5, a6⟩⟩ := hdp
      · obtain ⟨st', fr2, Mf2, If2, a1⟩ := a1
        refine ⟨_, _, N - (j + 1), rfl, rfl, by omega, j + 1, j + 1, rfl, by omega, by omega, nI_1 _, nI_1 _, ?_, ⟨a2, sx_trans x2 a4, sx_trans x3 a5, L2, by omega, a7⟩, st', fr2, Mf2, If2, a1, fun _ => rfl⟩
        dsimp only
        rw [a3, g6, ← nI_1, Int32.add_assoc]
      · exact ⟨_, _, N - (j + 1), rfl, rfl, by omega, j + 1, j, rfl, by omega, by omega, nI_1 _, rfl, a3.trans g6, ⟨a2, sx_trans x2 a4, sx_trans x3 a5, L', by omega, a6.trans x5⟩, st', fr2, Mf2, If2, a1, fun z => absurd z a8⟩
  · have hc0 : ¬ x.1 162 0 = nI 1 := by
      rw [c0]
      exact fun z => e1 ((nI_eq (by omega) (by decide)).mp z)
    have hu0 : ¬ v.1 174 111 = 1 := by
      rw [u0]
      exact fun z => e1 ((nI_eq (by omega) (by decide)).mp (show _ = nI 1 from z))
    have hu : wp (if nI N ≤ nI j then
          some ((.inr (nI j, v)) : (Int32 × cS) ⊕ (Int32 × cS))
        else
          if (v.1 174 111) = 1 then
            bdR n (nI j) v
          else
            some (.inr (nI j, v))) (fun b => b = .inr (nI j, v)) := by
      by_cases eN : nI N ≤ nI j
      · exact wpt eN rfl
      · exact wpf eN (wpf hu0 rfl)
    have hc : wp (if nI N ≤ nI k then
      some ((.inr x) : (Int32 × cS) ⊕ cS)
    else
      Option.bind (d_49 n x) (fun v7 =>
      if v7 = 0 then
        some (.inr x)
      else
        Option.bind (d_303 n x) (fun r8 =>
        lt (nI k + 1 : Int32) (fun v10 =>
        some (.inl (v10, r8)))))) (fun a => a = .inr x) := by
      by_cases eN : nI N ≤ nI k
      · exact wpt eN rfl
      · refine wpf eN (wpe e49 ?_)
        rw [if_neg hc0]
        exact wpt rfl rfl
    exact wp_mono hc (fun a ha => wp_mono hu (fun b hb => Or.inr ⟨x, (nI j, v), ha, hb, hX⟩))
theorem c_goB {a1 : Int32} (hb : a1 < 1 ∨ ¬ a1 ≤ 10000) : jw (d_85 n a1 c) (d_140 n a1 u) (fun r q => r = .inr (0, c) ∧ q = (0, pI u 174 0 (nI 1))) := by
  have h1 : wp (d_85 n a1 c) (fun r => r = .inr (0, c)) := by
    unfold d_85
    refine wpj ?_
    by_cases e : a1 < 1
    · exact wpt e rfl
    · exact wpf e (wpf (hb.resolve_left e) rfl)
  have hz : ¬ (nI 1 ≤ 0) := by decide
  have h2 : wp (d_140 n a1 u) (fun q => q = (0, pI u 174 0 (nI 1))) := by
    unfold d_140
    have k : (pI u 174 0 1).1 174 0 = nI 1 := by rw [rI, if_pos ⟨rfl, rfl⟩]; rfl
    refine wpj (wpj ?_)
    by_cases e : a1 < 1
    · exact wpt e (wpl (wpf (by rw [k]; exact hz) rfl))
    · exact wpf e (wpf (hb.resolve_left e) (wpl (wpf (by rw [k]; exact hz) rfl)))
  exact wp_mono h1 (fun a ha => wp_mono h2 (fun b hb => ⟨ha, hb⟩))
theorem c_go0 {a1 : Int32} (hb : ¬ a1 < 1 ∧ a1 ≤ 10000) (h1 : c.1 162 0 ≠ nI 1) (h2 : u.1 174 111 ≠ nI 1) : jw (d_85 n a1 c) (d_140 n a1 u) (fun r q => r = .inr (1, c) ∧ q = (0, pI u 174 0 (nI 2))) := by
  have h3 : wp (d_85 n a1 c) (fun r => r = .inr (1, c)) := by
    unfold d_85
    refine wpj (wpf hb.1 (wpt hb.2 (wpe e49 ?_)))
    rw [if_neg h1]
    exact wpt rfl rfl
  have h4 : wp (d_140 n a1 u) (fun q => q = (0, pI u 174 0 (nI 2))) := by
    unfold d_140
    have k : (pI u 174 0 2).1 174 0 = nI 2 := by rw [rI, if_pos ⟨rfl, rfl⟩]; rfl
    refine wpj (wpj (wpf hb.1 (wpt hb.2 (wpf h2 (wpl (wpf (by rw [k]; decide) rfl))))))
  exact wp_mono h3 (fun a ha => wp_mono h4 (fun b hb => ⟨ha, hb⟩))
theorem arg_N {a1 : Int32} (hb : ¬ a1 < 1 ∧ a1 ≤ 10000) : ∃ N, N ≤ 10000 ∧ a1 = nI N := by
  have e1 : ¬ a1.toInt < 1 := fun z => hb.1 (Int32.lt_iff_toInt_lt.mpr (by rw [show (1 : Int32).toInt = 1 by decide]; exact z))
  have e2 := Int32.le_iff_toInt_le.mp hb.2
  rw [show (10000 : Int32).toInt = 10000 by decide] at e2
  refine ⟨a1.toInt.toNat, by omega, Int32.toInt_inj.mp ?_⟩
  rw [nI_toInt (by omega)]
  omega
theorem c_go1 {a1 : Int32} (hn : 20000 ≤ n) (hb : ¬ a1 < 1 ∧ a1 ≤ 10000) (h : GOH m c (pI u 174 0 0) L) (hR : RN m c (pI u 174 0 0) 1 fr Mf If) : jw (d_85 n a1 c) (d_140 n a1 u) (fun r q => ∃ k d w, r = .inl (k, d) ∧ q = (k, w) ∧ w.1 174 0 = nI 0 ∧ GOX m c (pI u 174 0 0) (L + 160000) d w ∧ ∃ st fr Mf If, RN m d w st fr Mf If) := by
  obtain ⟨N, hN, rfl⟩ := arg_N hb
  obtain ⟨d, q, hd, hq, k1, k2, k3⟩ := jw_ex (go_lp hn hN h hR)
  have i2 : ix (2 : Int32) = 2 := by decide
  have h162 := hR.2.2.1
  have h111 := hR.2.2.2.1
  have u111 : u.1 174 111 = nI 1 := by
    rw [rI, if_neg (by omega)] at h111
    exact h111
  have h3 : wp (d_85 n (nI N) c) (fun r => r = .inl (q.1, d)) := by
    unfold d_85
    refine wpj (wpf hb.1 (wpt hb.2 (wpe e49 ?_)))
    rw [if_pos h162]
    refine wpf (by decide) (wpe (a := (q.1, d)) ?_ rfl)
    unfold d_302
    refine eq_wp (wpt (by decide) (wpl (wpe hd (wpt (by decide) ?_))))
    rw [i2, k1]
    show (_, d) = (q.1, d)
    rw [Int32.add_comm, Int32.add_sub_cancel]
  have h4 : wp (d_140 n (nI N) u) (fun p => p = (q.1, q.2)) := by
    unfold d_140
    have k : (pI u 174 0 0).1 174 0 = nI 0 := by rw [rI, if_pos ⟨rfl, rfl⟩]; rfl
    refine wpj (wpj (wpf hb.1 (wpt hb.2 (wpt u111 (wpl (wpt (by rw [k]; decide) (wpe hq rfl)))))))
  refine wp_mono h3 (fun a ha => wp_mono h4 (fun b hb => ⟨q.1, d, q.2, ha, hb, ?_, k2, k3⟩))
  rw [k2.2.2.1.1 174 0 rfl, rI, if_pos ⟨rfl, rfl⟩]
  rfl
end GO
