/-! NAMES are settled: all METHODS -/
section NSM
variable {n i N k M a b a0 na op L U oc kc mc cc t tot T : Nat} {c d u v w q c0 u0 c' u' : cS} {K P : Nat → Nat} {V : Nat → Int64}
def nsC (n : Nat) (s2 : Int32 × cS) : Option ((Int32 × cS) ⊕ (cS ⊕ (cS ⊕ cS))) :=
    Option.bind (d_158 n s2.2) (fun v3 =>
    if v3 ≤ s2.1 then
      some (.inr (.inl s2.2))
    else
      Option.bind (whl (niC n s2.1) n (0, s2.2))
      (Sum.elim (fun x14 : cS =>
        lt (s2.1 + 1 : Int32) (fun v16 =>
        some (.inl (v16, x14))))
      (fun x18 : (cS) ⊕ cS =>
        some (.inr (.inr x18)))))
theorem d286_s : d_286 n c = Option.bind (whl (nsC n) n (0, c)) (Sum.elim (fun x19 : cS =>
    some (.inl x19))
  (fun x20 : (cS) ⊕ cS =>
    some x20)) := rfl
def nsR (n : Nat) (s2 : Int32 × cS) : Option ((Int32 × cS) ⊕ cS) :=
    if 96 ≤ s2.1 then
      some (.inr s2.2)
    else
      if (s2.2.1 174 13) = 0 then
        Option.bind (d_105 n s2.1 s2.2) (fun v3 =>
        jn (fun p4 : cS =>
          lt (s2.1 + 1 : Int32) (fun v6 =>
          some (.inl (v6, p4))))
        (fun j62 =>
        if v3 = 0 then
          j62 s2.2
        else
          Option.bind (whl (niR n s2.1) n (0, s2.2))
          (fun x15 : cS =>
            j62 x15)))
      else
        some (.inr s2.2)
theorem d415_s : d_415 n u = Option.bind (whl (nsR n) n (0, u)) (fun x16 : cS => some x16) := rfl
/-- all NAMES are settled -/
def NSF (c0 u0 d q : cS) : Prop := sx (qNc 1024) c0 d ∧ sx (qNu 3840) u0 q ∧ ∀ M' l', mtb u0 M' = true → l' < acn u0 M' → ACN d q M' (fa c0 M' + l') (40 * M' + l')
theorem e158 (h : CCS c u) : d_158 n c = some (nI (8 * ccn u)) := by
  unfold d_158
  rw [h.1.2.1, show (8 : Int32) = nI 8 from rfl, pk_mul, Nat.mul_comm]
theorem nsR_no (hC : CCS c u) (h13 : u.1 174 13 = nI 0) (hM : M < 96) (hm : mtb u M = false) : nsR n (nI M, u) = some (.inl (nI (M + 1), u)) := by
  unfold nsR
  dsimp only
  refine eq_wp (wpf (by simp (disch := first | omega | decide) only [↓neg1, nlit, rI, rL, rI2, rL1, nI_add, pk_mul, sbT, dvT, nmd, ixT, ↓ibT, ltT, ltF, leT, leF, eqT, eqF, nM_ltT, nM_ltF, nM_leT, nM_leF, nM_eqF, nM_eqF', nbT0, nbT1, oI_s, oI_n, natF, natT, nltT, nltF, nleT, nleF, ↓reduceIte, lgc, not_true_eq_false, not_false_eq_true, or_false, false_or, or_true, true_or, and_true, true_and, and_false, false_and, ne_eq, eq_self, or_self, and_self]) (wpt h13 (wpe (e105 AG_rfl hC hM) ?_)))
  rw [hm]
  refine wpj (wpt (by decide) (wpl ?_))
  rw [nI_1]
  rfl
theorem nsR_end (hC : CCS c u) (h13 : u.1 174 13 = nI 0) : ∀ (j : Nat) (M x : Nat), M + j = 96 → 8 * ccn u ≤ M → j < x → whl (nsR n) x (nI M, u) = some u
  | 0, M, x, h1, h2, h3 => by
    obtain ⟨y, rfl⟩ : ∃ y, x = y + 1 := ⟨x - 1, by omega⟩
    refine whl_out ?_
    unfold nsR
    dsimp only
    rw [show M = 96 by omega]
    exact eq_wp (wpt (by decide) rfl)
  | j + 1, M, x, h1, h2, h3 => by
    obtain ⟨y, rfl⟩ : ∃ y, x = y + 1 := ⟨x - 1, by omega⟩
    rw [whl_in (nsR_no hC h13 (by omega) (decide_eq_false (by omega)))]
    exact nsR_end hC h13 j (M + 1) y (by omega) (by omega) (by omega)
set_option maxHeartbeats 8000000 in
theorem ns_go (hn : 10000 ≤ n) (h : CLV K P V N c0 u0 oc kc mc cc U tot i) (hcc : 1 ≤ cc) : jw (d_286 n c0) (d_415 n u0) (fun r q => (∃ d, r = .inl d ∧ NSF c0 u0 d q) ∨ (∃ z, r = .inr z ∧ FLR c0 u0 z q)) := by
  have hC0 := CLV_C h hcc
  have ecc := ccn_of h
  have h12 := (CCS_p hC0).1
  have hP0 := h.1
  have key : jw (whl (nsC n) n (0, c0)) (whl (nsR n) n (0, u0)) (fun r q => (∃ d, r = .inl d ∧ NSF c0 u0 d q) ∨ (∃ z, r = .inr (.inr z) ∧ FLR c0 u0 z q)) := by
    refine jw_whr 100 (fun m (s : Int32 × cS) (t : Int32 × cS) => ∃ M T, M ≤ 8 * ccn u0 ∧ m = 8 * ccn u0 - M ∧ s.1 = nI M ∧ t.1 = nI M ∧ T ≤ 1024 ∧ (∀ M', M ≤ M' → mtb u0 M' = true → T ≤ fa c0 M') ∧ NSI c0 u0 M 0 T s.2 t.2) ?_ n n (8 * ccn u0) (0, c0) (0, u0) (by omega) (by omega) ⟨0, 0, by omega, rfl, rfl, rfl, by omega, fun _ _ _ => Nat.zero_le _, sx_rfl, sx_rfl, fun M' l' _ _ z => by omega⟩
    rintro m ⟨s1, w⟩ ⟨s2, v⟩ ⟨M, T, hM, rfl, g1, g2, gT, gF, g3, g4, g5⟩
    dsimp only at g1 g2 g3 g4 g5
    subst g1
    subst g2
    have D : ∀ A x, ¬ (122 ≤ A ∧ A ≤ 124 ∧ x < T) → w.1 A x = c0.1 A x ∧ w.2 A x = c0.2 A x := fun A x z => ⟨g3.1 _ _ (decide_eq_false z), g3.2 _ _ (decide_eq_false z)⟩
    have S : ∀ A x, ¬ (((214 ≤ A ∧ A ≤ 216) ∨ A = 229) ∧ x < 40 * M + 0) → v.1 A x = u0.1 A x ∧ v.2 A x = u0.2 A x := fun A x z => ⟨g4.1 _ _ (decide_eq_false z), g4.2 _ _ (decide_eq_false z)⟩
    have hC : CCS w v := CCS_cg hC0 (fun A x z => D A x (by omega)) (fun A x z => S A x (by omega))
    have v13 : v.1 174 13 = nI 0 := by rw [(S _ _ (by omega)).1]; exact hP0.2.2.2.2
    have eccv : ccn v = ccn u0 := by
      unfold ccn
      rw [(S _ _ (by omega)).1]
    have emt : ∀ M, mtb v M = mtb u0 M := fun M => by
      unfold mtb
      rw [eccv]
      unfold qM
      rw [(S _ _ (by omega)).1]
    have h158 : d_158 n w = some (nI (8 * ccn u0)) := by
      rw [← eccv]
      exact e158 hC
    by_cases e : M = 8 * ccn u0
    · refine Or.inr ⟨.inl w, v, ?_, fun x hx => nsR_end hC v13 (96 - M) M x (by omega) (by omega) (by omega), Or.inl ⟨w, rfl, ?_, ?_, fun M' l' m1 m2 => ?_⟩⟩
      · unfold nsC
        dsimp only
        exact eq_wp (wpe h158 (wpt (by rw [e]; exact nI_le (Nat.le_refl _) (by omega)) rfl))
      · exact sx_wide g3 (fun A x z => by
          have := of_decide_eq_false z
          exact decide_eq_false (by omega))
      · exact sx_wide g4 (fun A x z => by
          have := of_decide_eq_false z
          exact decide_eq_false (by omega))
      · refine g5 M' l' m1 m2 (Or.inl ?_)
        have := (of_decide_eq_true m1).1
        omega
    have hM' : M < 8 * ccn u0 := by omega
    have hno : ¬ nI (8 * ccn u0) ≤ nI M := nI_ge (by omega) (by omega)
    cases hm : mtb u0 M with
    | false =>
      refine Or.inl ⟨(nI (M + 1), w), (nI (M + 1), v), 8 * ccn u0 - (M + 1), ?_, nsR_no hC v13 (by omega) (by rw [emt]; exact hm), by omega, M + 1, T, by omega, rfl, rfl, rfl, gT, fun M' z1 z2 => gF M' (by omega) z2, g3, sx_wide g4 (fun A x z => by
        have := of_decide_eq_false z
        exact decide_eq_false (by omega)), fun M' l' m1 m2 m3 => ?_⟩
      · have hin : whl (niC n (nI M)) n (0, w) = some (.inl w) := by
          obtain ⟨y, hy⟩ : ∃ y, n = y + 1 := ⟨n - 1, by omega⟩
          have : whl (niC n (nI M)) (y + 1) (0, w) = some (.inl w) := whl_out (by
            unfold niC
            dsimp only
            refine eq_wp (wpe (e157 hC (by omega)) ?_)
            rw [emt, hm]
            exact wpt (by decide) rfl)
          rw [← hy] at this
          exact this
        unfold nsC
        dsimp only
        refine eq_wp (wpe h158 (wpf hno (wpe hin (wpSl (wpl ?_)))))
        rw [nI_1]
        rfl
      · by_cases eq : M' = M
        · rw [eq, hm] at m1
          cases m1
        · exact g5 M' l' m1 m2 (by omega)
    | true =>
      have hFA := h.2.2.2.2.2.2.1
      obtain ⟨hM96, t, L, na, a0, hfa, hac, hD⟩ := CLV_M h hm
      obtain ⟨-, -, -, ⟨n1, n2, n3, n4, n5, n6⟩, -⟩ := hD
      obtain ⟨r, q, y1, y2, y3⟩ := jw_ex (ns_in hn h hcc hm ⟨g3, g4, g5⟩ (gF M (Nat.le_refl _) hm))
      have hR : nsR n (nI M, v) = some (.inl (nI (M + 1), q)) := by
        unfold nsR
        dsimp only
        refine eq_wp (wpf (by simp (disch := first | omega | decide) only [↓neg1, nlit, rI, rL, rI2, rL1, nI_add, pk_mul, sbT, dvT, nmd, ixT, ↓ibT, ltT, ltF, leT, leF, eqT, eqF, nM_ltT, nM_ltF, nM_leT, nM_leF, nM_eqF, nM_eqF', nbT0, nbT1, oI_s, oI_n, natF, natT, nltT, nltF, nleT, nleF, ↓reduceIte, lgc, not_true_eq_false, not_false_eq_true, or_false, false_or, or_true, true_or, and_true, true_and, and_false, false_and, ne_eq, eq_self, or_self, and_self]) (wpt v13 (wpe (e105 AG_rfl hC (by omega)) ?_)))
        rw [emt, hm]
        refine wpj (wpf (by decide) (wpe y2 (wpl ?_)))
        rw [nI_1]
        rfl
      rcases y3 with ⟨d, rfl, z1, z2, z3⟩ | ⟨z, rfl, hf⟩
      · refine Or.inl ⟨(nI (M + 1), d), (nI (M + 1), q), 8 * ccn u0 - (M + 1), ?_, hR, by omega, M + 1, fa c0 M + acn u0 M, by omega, rfl, rfl, rfl, by omega, fun M' m1 m2 => hFA M M' hm m2 (by omega), z1, sx_wide z2 (fun A x z => by
          have := of_decide_eq_false z
          exact decide_eq_false (by omega)), fun M' l' m1 m2 m3 => z3 M' l' m1 m2 ?_⟩
        · unfold nsC
          dsimp only
          refine eq_wp (wpe h158 (wpf hno (wpe y1 (wpSl (wpl ?_)))))
          rw [nI_1]
          rfl
        · by_cases eq : M' = M
          · subst eq
            exact Or.inr ⟨rfl, m2⟩
          · exact Or.inl (by omega)
      · refine Or.inr ⟨.inr (.inr z), q, ?_, fun x hx => ?_, Or.inr ⟨z, rfl, hf⟩⟩
        · unfold nsC
          dsimp only
          exact eq_wp (wpe h158 (wpf hno (wpe y1 (wpSr rfl))))
        · obtain ⟨x1, rfl⟩ : ∃ x1, x = x1 + 1 + 1 := ⟨x - 2, by omega⟩
          rw [whl_in hR]
          refine whl_out ?_
          unfold nsR
          dsimp only
          exact eq_wp (wpi (fun _ => rfl) (fun _ => wpf (ne13 hf.2.2.1) rfl))
  obtain ⟨r, q, y1, y2, y3⟩ := jw_ex key
  rw [d286_s, d415_s]
  rcases y3 with ⟨d, rfl, z1⟩ | ⟨z, rfl, hf⟩
  · exact wpe y1 (wp_of rfl (wpe y2 (wp_of rfl (Or.inl ⟨d, rfl, z1⟩))))
  · exact wpe y1 (wp_of rfl (wpe y2 (wp_of rfl (Or.inr ⟨z, rfl, hf⟩))))
end NSM
