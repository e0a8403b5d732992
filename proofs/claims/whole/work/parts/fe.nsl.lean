/-! NAMES are settled: one METHOD -/
section NSL
variable {n i N k M a b a0 na op L U oc kc mc cc t tot T : Nat} {c d u v w q c0 u0 c' u' : cS} {K P : Nat → Nat} {V : Nat → Int64} {x y : Int64}
theorem CCS_cg (h : CCS c u) (hc : ∀ A l, (A = 7 ∧ l = 10) ∨ (12 ≤ A ∧ A ≤ 17) ∨ A = 115 ∨ A = 116 → c'.1 A l = c.1 A l ∧ c'.2 A l = c.2 A l) (hu : ∀ A l, (A = 174 ∧ l = 37) ∨ (200 ≤ A ∧ A ≤ 207) → u'.1 A l = u.1 A l ∧ u'.2 A l = u.2 A l) : CCS c' u' := by
  have ecc : ccn u' = ccn u := by
    unfold ccn
    rw [(hu _ _ (by omega)).1]
  have efm : fM u' = fM u := funext fun k => by
    unfold fM
    rw [(hu _ _ (by omega)).1]
  have eqm : qM u' = qM u := funext fun k => by
    unfold qM
    rw [(hu _ _ (by omega)).1]
  have epm : pM u' = pM u := funext fun k => by
    unfold pM
    rw [(hu _ _ (by omega)).1]
  obtain ⟨⟨g1, g2, g3, g4, g5, g6⟩, h2, h3, h4, h5⟩ := h
  unfold CCS PC
  rw [ecc, efm, eqm, epm]
  refine ⟨⟨g1, by rw [(hc _ _ (by omega)).1]; exact g2, by rw [(hu _ _ (by omega)).1]; exact g3, fun k hk => ?_, fun k hk => ?_, fun k j hk hj => ?_⟩, h2, fun k hk => ?_, fun k j hk hj => ?_, fun k j hk hj => ?_⟩
  · rw [(hc _ _ (by omega)).1, (hu _ _ (by omega)).1]
    exact g4 k hk
  · rw [(hc _ _ (by omega)).1, (hu _ _ (by omega)).1]
    exact g5 k hk
  · rw [(hc _ _ (by omega)).1, (hu _ _ (by omega)).1]
    exact g6 k j hk hj
  · rw [(hc _ _ (by omega)).2, (hc _ _ (by omega)).1, (hu _ _ (by omega)).1, (hu _ _ (by omega)).2]
    exact h3 k hk
  · rw [(hc _ _ (by omega)).2, (hc _ _ (by omega)).1, (hu _ _ (by omega)).1, (hu _ _ (by omega)).2]
    exact h4 k j hk hj
  · rw [(hc _ _ (by omega)).2, (hu _ _ (by omega)).2]
    exact h5 k j hk hj
/-- the words of the reference that settled ACTS speak of -/
def auW (b A l : Nat) : Prop := ((211 ≤ A ∧ A ≤ 219 ∨ A = 229) ∧ l = b) ∨ (181 ≤ A ∧ A ≤ 210) ∨ A = 212 ∨ A = 220 ∨ A = 221 ∨ (A = 174 ∧ (l = 15 ∨ l = 37))
def acW2 (a A l : Nat) : Prop := (121 ≤ A ∧ A ≤ 132 ∧ l = a) ∨ (134 ≤ A ∧ A ≤ 144)
set_option maxHeartbeats 8000000 in
theorem OPR_cg (h : OPR c u M a b) (hc : ∀ A l, acW2 a A l → c'.1 A l = c.1 A l ∧ c'.2 A l = c.2 A l) (hu : ∀ A l, auW b A l → u'.1 A l = u.1 A l ∧ u'.2 A l = u.2 A l) : OPR c' u' M a b := by
  unfold auW at hu
  unfold acW2 at hc
  have e1 : opn u' b = opn u b := by
    unfold opn
    rw [(hu _ _ (by omega)).1]
  have e2 : xN u' b = xN u b := by
    unfold xN
    rw [(hu _ _ (by omega)).1]
  have e3 : yN u' b = yN u b := by
    unfold yN
    rw [(hu _ _ (by omega)).1]
  have e4 : lcn u' M = lcn u M := by
    unfold lcn
    rw [(hu _ _ (by omega)).1]
  have e5 : ccn u' = ccn u := by
    unfold ccn
    rw [(hu _ _ (by omega)).1]
  have e6 : ocn u' = ocn u := by
    unfold ocn
    rw [(hu _ _ (by omega)).1]
  have e7 : acn u' M = acn u M := by
    unfold acn
    rw [(hu _ _ (by omega)).1]
  have e8 : fM u' = fM u := funext fun k => by
    unfold fM
    rw [(hu _ _ (by omega)).1]
  have e9 : qM u' = qM u := funext fun k => by
    unfold qM
    rw [(hu _ _ (by omega)).1]
  have e10 : pM u' = pM u := funext fun k => by
    unfold pM
    rw [(hu _ _ (by omega)).1]
  have e11 : ∀ o, eln u' o = eln u o := fun o => by
    unfold eln
    rw [(hu _ _ (by omega)).1]
  obtain ⟨h1, h2, h3, h4, h5, h6, h7, h8⟩ := h
  have hT : ∀ {z : opn u b ≤ 15}, TLR c' u' a b := fun {z} => (TLR_cg (U := 4096) (h2 z) (fun l hl => ((h2 z).2.2.2.1 l hl).2.2.2.2.2.1) (fun A l y => hc A l (by unfold acR mkR1 at y; omega)) (fun A l y => hu A l (by unfold auR at y; omega))).1
  unfold OPR
  rw [e1, e2, e3, e4, e5, e6, e7, e8, e9, e10, e11, (hc 122 a (by omega)).1, (hc 123 a (by omega)).1, (hc 128 a (by omega)).2, (hc 129 a (by omega)).2, (hu 214 b (by omega)).1, (hu 215 b (by omega)).1, (hu 216 b (by omega)).1, (hu 229 b (by omega)).1]
  refine ⟨h1, fun z => hT (z := z), h3, fun z => ?_, fun z => ?_, h6, fun z => ?_, h8⟩
  · obtain ⟨a1, a2, a3, a4, a5, ⟨d, a6, a7, a8⟩, a9⟩ := h4 z
    exact ⟨a1, a2, a3, a4, a5, ⟨d, a6, a7, by rw [(hu 200 d (by omega)).2]; exact a8⟩, by rw [(hu 204 _ (by omega)).2]; exact a9⟩
  · obtain ⟨a1, a2, a3, a4, a5, a51, ⟨d, a6, a7, a8⟩, a9⟩ := h5 z
    exact ⟨a1, a2, a3, a4, a5, a51, ⟨d, a6, a7, by rw [(hu 200 d (by omega)).2]; exact a8⟩, by rw [(hu 206 _ (by omega)).2]; exact a9⟩
  · obtain ⟨t, a1, a2, a3⟩ := h7 z
    exact ⟨t, a1, a2, by rw [(hu 212 _ (by omega)).2]; exact a3⟩
theorem ACN_cg (h : ACN c u M a b) (hc : ∀ A l, acW2 a A l → c'.1 A l = c.1 A l ∧ c'.2 A l = c.2 A l) (hu : ∀ A l, auW b A l → u'.1 A l = u.1 A l ∧ u'.2 A l = u.2 A l) : ACN c' u' M a b := by
  obtain ⟨op, h1, h2, h3, h4, ⟨h5, h6, h7⟩, h8, h9⟩ := h
  have h9' := OPR_cg h9 hc hu
  unfold auW at hu
  unfold acW2 at hc
  exact ⟨op, h1, by rw [(hc _ _ (by omega)).1]; exact h2, by rw [(hu _ _ (by omega)).1]; exact h3, by rw [(hc _ _ (by omega)).2, (hu _ _ (by omega)).2]; exact h4, ⟨by rw [(hc _ _ (by omega)).1, (hu _ _ (by omega)).1]; exact h5, by rw [(hc _ _ (by omega)).1]; exact h6, by rw [(hc _ _ (by omega)).1]; exact h7⟩, by rw [(hc _ _ (by omega)).1, (hu _ _ (by omega)).1]; exact h8, h9'⟩
/-- what NAMES change -/
def qNc (T A l : Nat) : Bool := decide (122 ≤ A ∧ A ≤ 124 ∧ l < T)
def qNu (T A l : Nat) : Bool := decide (((214 ≤ A ∧ A ≤ 216) ∨ A = 229) ∧ l < T)
theorem qNc_c (h : sx (qNc T) c d) : sx QRc c d := sx_wide h (fun A j z => by
  have := of_decide_eq_false z
  exact decide_eq_false (by omega))
theorem qNu_u (h : sx (qNu T) u v) : sx QRu u v := sx_wide h (fun A j z => by
  have := of_decide_eq_false z
  exact decide_eq_false (by omega))
/-- ACTS behind which NAMES are settled: those ahead of ACT l of METHOD M -/
def NSI (c0 u0 : cS) (M l T : Nat) (c u : cS) : Prop := sx (qNc T) c0 c ∧ sx (qNu (40 * M + l)) u0 u ∧ ∀ M' l', mtb u0 M' = true → l' < acn u0 M' → M' < M ∨ (M' = M ∧ l' < l) → ACN c u M' (fa c0 M' + l') (40 * M' + l')
def niC (n : Nat) (s2 : Int32) (s5 : Int32 × cS) : Option ((Int32 × cS) ⊕ (cS ⊕ (cS ⊕ cS))) :=
        Option.bind (d_157 n s2 s5.2) (fun v6 =>
        if v6 = 0 then
          some (.inr (.inl s5.2))
        else
          if ib s2 96 then
          if (s5.2.1 120 (ix s2)) ≤ s5.1 then
            some (.inr (.inl s5.2))
          else
            if ib s2 96 then
            Option.bind (d_287 n s2 ((s5.2.1 119 (ix s2)) + s5.1) s5.2) (Sum.elim (fun r9 =>
            lt (s5.1 + 1 : Int32) (fun v12 =>
            some (.inl (v12, r9))))
            (fun z10 => some (.inr (.inr (.inr z10)))))
            else none
          else none)
def niR (n : Nat) (s2 : Int32) (s9 : Int32 × cS) : Option ((Int32 × cS) ⊕ cS) :=
            if ib s2 96 then
            if (s9.2.1 210 (ix s2)) ≤ s9.1 then
              some (.inr s9.2)
            else
              if (s9.2.1 174 13) = 0 then
                Option.bind (d_416 n s2 ((40 * s2) + s9.1) s9.2) (fun r11 =>
                lt (s9.1 + 1 : Int32) (fun v13 =>
                some (.inl (v13, r11))))
              else
                some (.inr s9.2)
            else none
/-- a METHOD as it is read -/
theorem CLV_M (h : CLV K P V N c u oc kc mc cc U tot i) (hm : mtb u M = true) : M < 96 ∧ ∃ t L na a0, fa c M = a0 ∧ acn u M = na ∧ MTD K P V N c u M (100 * (M / 8) + 20 + 10 * (M % 8)) a0 t L na oc kc U := by
  have ecc := ccn_of h
  obtain ⟨-, -, ⟨-, -, -, g6, -⟩, -, -, g13, -⟩ := h
  obtain ⟨m1, m2⟩ := of_decide_eq_true hm
  rw [ecc] at m1
  obtain ⟨q8, -, -, hm⟩ := (g13 (M / 8) m1).2.2
  obtain ⟨t, L, na, a0, x1, x2⟩ := hm (M % 8) m2
  have e : 8 * (M / 8) + M % 8 = M := by omega
  rw [e] at x2
  refine ⟨by omega, t, L, na, a0, ?_, ?_, x2⟩
  · obtain ⟨-, -, -, ⟨-, -, -, -, y5, y6⟩, -⟩ := x2
    unfold fa
    rw [y5, ix_n (by omega)]
  · obtain ⟨-, -, -, ⟨-, y2, -, y4, -⟩, -⟩ := x2
    unfold acn
    rw [y4, ix_n (by omega)]
set_option maxHeartbeats 8000000 in
theorem ns_in (hn : 10000 ≤ n) (h : CLV K P V N c0 u0 oc kc mc cc U tot i) (hcc : 1 ≤ cc) (hm : mtb u0 M = true) (h0 : NSI c0 u0 M 0 T c u) (hT : T ≤ fa c0 M) : jw (whl (niC n (nI M)) n (0, c)) (whl (niR n (nI M)) n (0, u)) (fun r q => (∃ d, r = .inl d ∧ NSI c0 u0 M (acn u0 M) (fa c0 M + acn u0 M) d q) ∨ (∃ z, r = .inr (.inr z) ∧ FLR c0 u0 z q)) := by
  obtain ⟨hM, t, L, na, a0, hfa, hac, hD⟩ := CLV_M h hm
  have hC0 := CLV_C h hcc
  have hB0 := FRN_B h.2.1
  have hP0 := h.1
  have hoc : oc = ocn u0 := by
    unfold ocn
    rw [h.2.2.1.1.1.2.2.1, ix_n (by have := h.2.2.1.1.1.1; omega)]
  have hiM : ib (nI M) 96 := ib_n hM (by decide)
  have eM : ix (nI M) = M := ix_n (by omega)
  rw [hac, hfa]
  rw [hfa] at hT
  obtain ⟨-, -, ⟨t2, t3, t4, t5, -⟩, ⟨n1, n2, n3, n4, n5, n6⟩, hX, -, -, hLB⟩ := hD
  refine jw_whf (fun m (s : Int32 × cS) (t : Int32 × cS) => ∃ l, l ≤ na ∧ m = na - l ∧ s.1 = nI l ∧ t.1 = nI l ∧ NSI c0 u0 M l (a0 + l) s.2 t.2) ?_ n n na (0, c) (0, u) (by omega) (by omega) ⟨0, by omega, rfl, rfl, rfl, sx_wide h0.1 (fun A l z => by
    have := of_decide_eq_false z
    exact decide_eq_false (by omega)), h0.2.1, h0.2.2⟩
  rintro m ⟨s1, w⟩ ⟨s2, v⟩ ⟨l, hl, rfl, g1, g2, g3, g4, g5⟩
  dsimp only at g1 g2 g3 g4 g5
  subst g1
  subst g2
  have D : ∀ A x, ¬ (122 ≤ A ∧ A ≤ 124 ∧ x < a0 + l) → w.1 A x = c0.1 A x ∧ w.2 A x = c0.2 A x := fun A x z => ⟨g3.1 _ _ (decide_eq_false z), g3.2 _ _ (decide_eq_false z)⟩
  have S : ∀ A x, ¬ (((214 ≤ A ∧ A ≤ 216) ∨ A = 229) ∧ x < 40 * M + l) → v.1 A x = u0.1 A x ∧ v.2 A x = u0.2 A x := fun A x z => ⟨g4.1 _ _ (decide_eq_false z), g4.2 _ _ (decide_eq_false z)⟩
  have hC : CCS w v := CCS_cg hC0 (fun A x z => D A x (by omega)) (fun A x z => S A x (by omega))
  have v120 : w.1 120 M = nI na := by rw [(D _ _ (by omega)).1]; exact n3
  have v119 : w.1 119 M = nI a0 := by rw [(D _ _ (by omega)).1]; exact n5
  have v210 : v.1 210 M = nI na := by rw [(S _ _ (by omega)).1]; exact n4
  have v13 : v.1 174 13 = nI 0 := by rw [(S _ _ (by omega)).1]; exact hP0.2.2.2.2
  have emt : mtb v M = true := by
    rw [← hm]
    unfold mtb ccn qM
    rw [(S _ _ (by omega)).1, (S _ _ (by omega)).1]
  have hMc : M < 8 * ccn v := by
    have := (of_decide_eq_true emt).1
    omega
  have h157 : d_157 n (nI M) w = some (nI 1) := by
    rw [e157 hC hMc, emt]
    rfl
  by_cases e : l = na
  · subst e
    refine jw_of (a := .inr (.inl w)) (b := .inr v) ?_ ?_ (Or.inr (Or.inl ⟨_, _, rfl, rfl, Or.inl ⟨w, rfl, g3, g4, g5⟩⟩))
    · unfold niC
      dsimp only
      rw [eM, v120]
      exact eq_wp (wpe h157 (wpf (by decide) (wpt hiM (wpt (by simp (disch := first | omega | decide) only [↓neg1, nlit, rI, rL, rI2, rL1, nI_add, pk_mul, sbT, dvT, nmd, ixT, ↓ibT, ltT, ltF, leT, leF, eqT, eqF, nM_ltT, nM_ltF, nM_leT, nM_leF, nM_eqF, nM_eqF', nbT0, nbT1, oI_s, oI_n, natF, natT, nltT, nltF, nleT, nleF, ↓reduceIte, lgc, not_true_eq_false, not_false_eq_true, or_false, false_or, or_true, true_or, and_true, true_and, and_false, false_and, ne_eq, eq_self, or_self, and_self]) rfl))))
    · unfold niR
      dsimp only
      rw [eM, v210]
      exact eq_wp (wpt hiM (wpt (by simp (disch := first | omega | decide) only [↓neg1, nlit, rI, rL, rI2, rL1, nI_add, pk_mul, sbT, dvT, nmd, ixT, ↓ibT, ltT, ltF, leT, leF, eqT, eqF, nM_ltT, nM_ltF, nM_leT, nM_leF, nM_eqF, nM_eqF', nbT0, nbT1, oI_s, oI_n, natF, natT, nltT, nltF, nleT, nleF, ↓reduceIte, lgc, not_true_eq_false, not_false_eq_true, or_false, false_or, or_true, true_or, and_true, true_and, and_false, false_and, ne_eq, eq_self, or_self, and_self]) rfl))
  have hl' : l < na := by omega
  have e8 : (40 : Int32) * nI M + nI l = nI (40 * M + l) := by rw [show (40 : Int32) = nI 40 from rfl, pk_mul, nI_add]
  have hTK : TKR w v K P V N := TKR_sx hP0.1 g3 g4 (fun A j z1 z2 => decide_eq_false (by omega)) (fun A j z1 z2 => decide_eq_false (by omega))
  have hXX : ACX K P V N w v (a0 + l) (40 * M + l) L U oc := ACX_cg (hX l hl') (Nat.le_refl _) (Nat.le_refl _) (fun A x z => D A x (by unfold acR mkR1 at z; omega)) (fun A x z => S A x (by unfold auR at z; omega))
  have hLB' : LBU v M na := by
    intro y hy
    have := hLB y hy
    unfold lbX at this ⊢
    rw [(S 212 _ (by omega)).2]
    rcases this with z | z
    · exact Or.inl z
    · refine Or.inr ?_
      rw [← z]
      exact ff_congr (fun j hj => by rw [(S 212 _ (by omega)).2])
  obtain ⟨r, q, y1, y2, y3⟩ := jw_ex (nam_go (n := n) (M := M) (a := a0 + l) (b := 40 * M + l) (a0 := a0) (na := na) (kc := kc) (by omega) hM (by omega) (by omega) n2 (by omega) v120 v119 v210 (fun y hy => by
    obtain ⟨op, -, -, -, z, -⟩ := hX y hy
    rw [(D 127 _ (by omega)).2, (S 212 _ (by omega)).2]
    exact z) hLB' t3 (by rw [(S _ _ (by omega)).1]; exact t5) (ENB_cg hB0 (fun x => (S _ _ (by omega)).1) (fun x => (S _ _ (by omega)).1)) (by rw [hoc]; unfold ocn; rw [(S 174 15 (by omega)).1]) hC hTK v13 hXX)
  have hR : niR n (nI M) (nI l, v) = some (.inl (nI (l + 1), q)) := by
    unfold niR
    dsimp only
    rw [eM, v210, e8]
    refine eq_wp (wpt hiM (wpf (by simp (disch := first | omega | decide) only [↓neg1, nlit, rI, rL, rI2, rL1, nI_add, pk_mul, sbT, dvT, nmd, ixT, ↓ibT, ltT, ltF, leT, leF, eqT, eqF, nM_ltT, nM_ltF, nM_leT, nM_leF, nM_eqF, nM_eqF', nbT0, nbT1, oI_s, oI_n, natF, natT, nltT, nltF, nleT, nleF, ↓reduceIte, lgc, not_true_eq_false, not_false_eq_true, or_false, false_or, or_true, true_or, and_true, true_and, and_false, false_and, ne_eq, eq_self, or_self, and_self]) (wpt v13 (wpe y2 (wpl ?_)))))
    rw [nI_1]
    rfl
  rcases y3 with ⟨d, rfl, z1, z2, z3⟩ | ⟨z, rfl, hf⟩
  · refine jw_of (a := .inl (nI (l + 1), d)) ?_ hR (Or.inl ⟨_, _, na - (l + 1), rfl, rfl, by omega, l + 1, by omega, rfl, rfl, rfl, ?_, ?_, ?_⟩)
    · unfold niC
      dsimp only
      rw [eM, v120, v119, nI_add]
      refine eq_wp (wpe h157 (wpf (by decide) (wpt hiM (wpf (by simp (disch := first | omega | decide) only [↓neg1, nlit, rI, rL, rI2, rL1, nI_add, pk_mul, sbT, dvT, nmd, ixT, ↓ibT, ltT, ltF, leT, leF, eqT, eqF, nM_ltT, nM_ltF, nM_leT, nM_leF, nM_eqF, nM_eqF', nbT0, nbT1, oI_s, oI_n, natF, natT, nltT, nltF, nleT, nleF, ↓reduceIte, lgc, not_true_eq_false, not_false_eq_true, or_false, false_or, or_true, true_or, and_true, true_and, and_false, false_and, ne_eq, eq_self, or_self, and_self]) (wpt hiM (wpe y1 (wpSl (wpl ?_))))))))
      rw [nI_1]
      rfl
    · exact sx_trans (sx_wide g3 (fun A x z => by
        have := of_decide_eq_false z
        exact decide_eq_false (by omega))) (sx_wide z2 (fun A x z => by
        have := of_decide_eq_false z
        exact decide_eq_false (by omega)))
    · exact sx_trans (sx_wide g4 (fun A x z => by
        have := of_decide_eq_false z
        exact decide_eq_false (by omega))) (sx_wide z3 (fun A x z => by
        have := of_decide_eq_false z
        exact decide_eq_false (by omega)))
    · intro M' l' m1 m2 m3
      by_cases eq : M' = M ∧ l' = l
      · obtain ⟨rfl, rfl⟩ := eq
        rw [hfa]
        exact z1
      · have hfa' : fa c0 M' + l' < a0 + l := by
          by_cases e4 : M' = M
          · subst e4
            rw [hfa]
            omega
          · have := h.2.2.2.2.2.2.1 M' M m1 hm (by omega)
            rw [hfa] at this
            omega
        have hb' : 40 * M' + l' < 40 * M + l := by
          by_cases e4 : M' = M
          · subst e4
            omega
          · obtain ⟨-, _, _, na', _, -, hac', hD'⟩ := CLV_M h m1
            obtain ⟨-, -, -, ⟨-, y2, -⟩, -⟩ := hD'
            omega
        exact ACN_cg (g5 M' l' m1 m2 (by omega)) (fun A x z => ⟨z2.1 _ _ (decide_eq_false (by unfold acW2 at z; omega)), z2.2 _ _ (decide_eq_false (by unfold acW2 at z; omega))⟩) (fun A x z => ⟨z3.1 _ _ (decide_eq_false (by unfold auW at z; omega)), z3.2 _ _ (decide_eq_false (by unfold auW at z; omega))⟩)
  · have hfr : FLR c0 u0 z q := FLR_tr hf (qNc_c g3) (qNu_u g4)
    refine jw_of (a := .inr (.inr (.inr z))) ?_ hR ?_
    · unfold niC
      dsimp only
      rw [eM, v120, v119, nI_add]
      exact eq_wp (wpe h157 (wpf (by decide) (wpt hiM (wpf (by simp (disch := first | omega | decide) only [↓neg1, nlit, rI, rL, rI2, rL1, nI_add, pk_mul, sbT, dvT, nmd, ixT, ↓ibT, ltT, ltF, leT, leF, eqT, eqF, nM_ltT, nM_ltF, nM_leT, nM_leF, nM_eqF, nM_eqF', nbT0, nbT1, oI_s, oI_n, natF, natT, nltT, nltF, nleT, nleF, ↓reduceIte, lgc, not_true_eq_false, not_false_eq_true, or_false, false_or, or_true, true_or, and_true, true_and, and_false, false_and, ne_eq, eq_self, or_self, and_self]) (wpt hiM (wpe y1 (wpSr rfl)))))))
    · refine Or.inr (Or.inr ⟨_, _, q, rfl, rfl, ?_, Or.inr ⟨z, rfl, hfr⟩⟩)
      unfold niR
      dsimp only
      refine eq_wp (wpt hiM (wpi (fun _ => rfl) (fun _ => wpf (ne13 hf.2.2.1) rfl)))
end NSL
