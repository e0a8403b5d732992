/-! DEPTHS: one METHOD, both; all METHODS -/
section DPG
variable {n i j N k M a b a0 na op B X E t x T : Nat} {c d u v w q c0 u0 c' u' : cS}
/-- the DEPTHS of a METHOD that is gone over -/
def DPQ (u0 d q : cS) (M a0 na : Nat) : Prop := (∀ i, i < na → d.1 125 (a0 + i) = q.1 230 (40 * M + i) ∧ (q.1 230 (40 * M + i) = nM ∨ DPO u0 q M na i)) ∧ q.1 230 (40 * M) = nI 0
theorem dp_prep (hn : 100 ≤ n) (hM : M < 96) (hna : na ≤ 40) : wp (whl (dpL (nI (40 * M)) (nI na)) n (0, u)) (fun q => (∀ i, i < na → q.1 230 (40 * M + i) = nM ∧ q.1 231 i = nI 0) ∧ sx (qDu M) u q) := by
  refine whl_cnt (fun k (s : Int32 × cS) => s.1 = nI k ∧ (∀ i, i < k → s.2.1 230 (40 * M + i) = nM ∧ s.2.1 231 i = nI 0) ∧ sx (qDu M) u s.2) na ?_ ?_ (by omega) ⟨rfl, fun i hi => absurd hi (Nat.not_lt_zero _), sx_rfl⟩
  · rintro k ⟨p, s⟩ hk ⟨g1, g2, g3⟩
    dsimp only at g1 g2 g3
    subst g1
    unfold dpL
    dsimp only
    rw [nI_add, show ix (nI (40 * M + k)) = 40 * M + k from ix_n (by omega), show ix (nI k) = k from ix_n (by omega), show vp_nar .boolean 0 = nI 0 from rfl]
    refine wpf (by simp (disch := first | omega | decide) only [↓neg1, nlit, rI, rL, rI2, rL1, nI_add, pk_mul, sbT, dvT, nmd, ixT, ↓ibT, ltT, ltF, leT, leF, eqT, eqF, nM_ltT, nM_ltF, nM_leT, nM_leF, nM_eqF, nM_eqF', nbT0, nbT1, oI_s, oI_n, natF, natT, nltT, nltF, nleT, nleF, ↓reduceIte, lgc, not_true_eq_false, not_false_eq_true, or_false, false_or, or_true, true_or, and_true, true_and, and_false, false_and, ne_eq, eq_self, or_self, and_self]) (wpt (ib_n (by omega) (by decide)) (wpl (wpt (ib_n (by omega) (by decide)) (wpl (wpl ⟨nI_1 k, fun i hi => ?_, sx_pI (sx_pI g3 (decide_eq_true (by omega))) (decide_eq_true (by omega))⟩)))))
    show (pI (pI s 230 (40 * M + k) (-1)) 231 k (nI 0)).1 230 (40 * M + i) = _ ∧ (pI (pI s 230 (40 * M + k) (-1)) 231 k (nI 0)).1 231 i = _
    by_cases e : i = k
    · rw [e, rI, if_neg (by omega), rI, if_pos ⟨rfl, rfl⟩, rI, if_pos ⟨rfl, rfl⟩]
      exact ⟨rfl, rfl⟩
    · rw [rI, if_neg (by omega), rI, if_neg (by omega), rI, if_neg (by omega), rI, if_neg (by omega)]
      exact g2 i (by omega)
  · rintro ⟨p, s⟩ ⟨g1, g2, g3⟩
    dsimp only at g1 g2 g3
    subst g1
    unfold dpL
    dsimp only
    exact wpt (by simp (disch := first | omega | decide) only [↓neg1, nlit, rI, rL, rI2, rL1, nI_add, pk_mul, sbT, dvT, nmd, ixT, ↓ibT, ltT, ltF, leT, leF, eqT, eqF, nM_ltT, nM_ltF, nM_leT, nM_leF, nM_eqF, nM_eqF', nbT0, nbT1, oI_s, oI_n, natF, natT, nltT, nltF, nleT, nleF, ↓reduceIte, lgc, not_true_eq_false, not_false_eq_true, or_false, false_or, or_true, true_or, and_true, true_and, and_false, false_and, ne_eq, eq_self, or_self, and_self]) (wp_of rfl ⟨g2, g3⟩)
def DMX (c0 u0 : cS) (M a0 na : Nat) (r : cS ⊕ cS) (q : cS) : Prop := (∃ d, r = .inl d ∧ sx (qDc a0 na) c0 d ∧ sx (qDu M) u0 q ∧ DPQ u0 d q M a0 na) ∨ (∃ z, r = .inr z ∧ FLR c0 u0 z q)
set_option maxHeartbeats 8000000 in
theorem dm_go (hn : 100 ≤ n) (hb : DBS n c0 u0 M a0 na) (h125 : ∀ i, i < na → c0.1 125 (a0 + i) = nM) (h210 : u0.1 210 M = nI na) : jw (d_289 n (nI a0) (nI na) c0) (d_419 n (nI M) u0) (DMX c0 u0 M a0 na) := by
  obtain ⟨hC, hM, ha0, ⟨hna1, hna⟩, h13, hac, hA⟩ := id hb
  have hia : ib (nI a0) 1024 := ib_n (by omega) (by decide)
  have ea : ix (nI a0) = a0 := ix_n (by omega)
  have hiM : ib (nI M) 96 := ib_n hM (by decide)
  have eM : ix (nI M) = M := ix_n (by omega)
  have hib : ib (nI (40 * M)) 3840 := ib_n (by omega) (by decide)
  have eb : ix (nI (40 * M)) = 40 * M := ix_n (by omega)
  have e40 : (40 : Int32) * nI M = nI (40 * M) := by rw [show (40 : Int32) = nI 40 from rfl, pk_mul]
  obtain ⟨x20, hx, x1, x2⟩ := wp_ex (dp_prep (n := n) (u := u0) hn hM hna)
  obtain ⟨c2, hc2⟩ : ∃ c2, c2 = pI c0 125 a0 0 := ⟨_, rfl⟩
  obtain ⟨u2, hu2⟩ : ∃ u2, u2 = pI x20 230 (40 * M) 0 := ⟨_, rfl⟩
  have hI0 : DPI c0 u0 M a0 na na 1 0 c2 u2 := by
    have u230 : ∀ i, i < na → u2.1 230 (40 * M + i) = if i = 0 then nI 0 else nM := fun i hi => by
      rw [hu2, rI]
      by_cases e : i = 0
      · rw [if_pos e, e, if_pos ⟨rfl, rfl⟩]
        rfl
      · rw [if_neg e, if_neg (by omega)]
        exact (x1 i hi).1
    have u231 : ∀ i, i < na → u2.1 231 i = nI 0 := fun i hi => by
      rw [hu2, rI, if_neg (by omega)]
      exact (x1 i hi).2
    refine ⟨?_, ?_, fun i hi => ⟨?_, ?_⟩, u230 0 (by omega), fun i hi => ⟨Or.inl (u231 i hi), fun z => ?_⟩, ⟨?_, fun i hi => ?_⟩, fun i hi _ z => ?_, ?_⟩
    · rw [hc2]
      exact sx_pI sx_rfl (decide_eq_true (by omega))
    · rw [hu2]
      exact sx_pI x2 (decide_eq_true (by omega))
    · rw [u230 i hi, hc2, rI]
      by_cases e : i = 0
      · rw [if_pos e, e, if_pos ⟨rfl, rfl⟩]
        rfl
      · rw [if_neg e, if_neg (by omega)]
        exact h125 i hi
    · rw [u230 i hi]
      by_cases e : i = 0
      · rw [if_pos e]
        exact Or.inr ⟨0, by omega, rfl⟩
      · rw [if_neg e]
        exact Or.inl rfl
    · rw [u231 i hi] at z
      exact absurd z (by decide)
    · exact Nat.one_lt_two_pow (by omega)
    · rw [u230 i hi, u231 i hi]
      by_cases e : i = 0
      · subst e
        rw [if_pos rfl]
        exact ⟨fun _ => ⟨by decide, rfl⟩, fun _ => rfl⟩
      · rw [if_neg e]
        refine ⟨fun z => ?_, fun z => absurd rfl z.1⟩
        have := Nat.testBit_lt_two_pow (x := 1) (i := i) (Nat.one_lt_two_pow e)
        rw [z] at this
        cases this
    · rw [u231 i hi] at z
      exact absurd z (by decide)
    · have y : ∀ s, s ≤ na → cntN (fun i => decide (u2.1 231 i = nI 1)) s = 0 := fun s => by
        induction s with
        | zero => exact fun _ => rfl
        | succ s ih =>
          intro hs
          rw [cntN_s, ih (by omega), decide_eq_false (by rw [u231 s (by omega)]; decide), if_neg (by decide)]
      exact (y na (Nat.le_refl _)).symm
  have key : jw (whl (dlC n (nI a0) (nI na)) n (1, 0, c2)) (whl (dlR n (nI (40 * M)) (nI na)) n u2) (fun r s => (∃ d q k, r = .inl d ∧ s = .inr (.inl q) ∧ DPI c0 u0 M a0 na na 0 k d q) ∨ (∃ z, r = .inr (.inr z) ∧ ((∃ y q, s = .inr (.inr (nI y, q)) ∧ y < 3840 ∧ q.1 174 13 = nI 0 ∧ FLR c0 u0 z (flt q 8 (q.1 213 y))) ∨ (∃ q, s = .inl q ∧ FLR c0 u0 z q)))) := by
    refine jw_whf (fun m (s : Int64 × Int32 × cS) t => ∃ B k, k ≤ na ∧ m = na - k ∧ s.1 = lN B ∧ s.2.1 = nI k ∧ DPI c0 u0 M a0 na na B k s.2.2 t) ?_ n n na (1, 0, c2) u2 (by omega) (by omega) ⟨1, 0, by omega, rfl, rfl, rfl, hI0⟩
    rintro m ⟨s1, s2, w⟩ v ⟨B, k, hk, rfl, g1, g2, g3⟩
    dsimp only at g1 g2 g3
    subst g1
    subst g2
    by_cases e : B = 0
    · subst e
      have v13 : v.1 174 13 = nI 0 := by
        rw [g3.2.1.1 _ _ (decide_eq_false (by omega))]
        exact h13
      refine jw_of (a := .inr (.inl w)) (b := .inr (.inr (.inl v))) ?_ ?_ (Or.inr (Or.inl ⟨_, _, rfl, rfl, Or.inl ⟨w, v, k, rfl, rfl, g3⟩⟩))
      · unfold dlC
        dsimp only
        exact eq_wp (wpi (fun _ => rfl) (fun _ => wpt (by decide) rfl))
      · have hs : whl (dsR (nI (40 * M)) (nI na) v) n 0 = some (nI na) := by
          rw [seek_r hn hM hna (fun i hi => (g3.2.2.1 i hi).2), ff_no (fun i hi => decide_eq_false (fun z => by
            have := (g3.2.2.2.2.2.1.2 i hi).mpr z
            rw [Nat.zero_testBit] at this
            cases this))]
          rfl
        unfold dlR
        exact eq_wp (wpt v13 (wpe hs (wpt rfl rfl)))
    · obtain ⟨hk', hs⟩ := dp_stp hn hb g3 e
      refine jw_mono hs (fun r s hr => ?_)
      rcases hr with ⟨B', d, q, rfl, rfl, y⟩ | ⟨z, rfl, y⟩
      · exact Or.inl ⟨_, _, na - (k + 1), rfl, rfl, by omega, B', k + 1, by omega, rfl, rfl, rfl, y⟩
      · rcases y with ⟨y, q, rfl, y1, y2, y3⟩ | ⟨q, rfl, y⟩
        · exact Or.inr (Or.inl ⟨_, _, rfl, rfl, Or.inr ⟨z, rfl, Or.inl ⟨y, q, rfl, y1, y2, y3⟩⟩⟩)
        · refine Or.inr (Or.inr ⟨_, q, .inl q, rfl, rfl, ?_, Or.inr ⟨z, rfl, Or.inr ⟨q, rfl, y⟩⟩⟩)
          unfold dlR
          exact eq_wp (wpf (ne13 y.2.2.1) rfl)
  obtain ⟨r, s, y1, y2, y3⟩ := jw_ex key
  have hC0 : ∀ {Q : cS ⊕ cS → Prop}, wp ((Sum.elim (fun x20 : cS =>
    some (.inl x20))
  (fun x21 : (cS) ⊕ cS =>
    some x21) r : Option (cS ⊕ cS))) Q → wp (d_289 n (nI a0) (nI na) c0) Q := fun {Q} h => by
    rw [d289_s, ea]
    refine wpt hia (wpl ?_)
    rw [← hc2]
    exact wpe y1 h
  have hR0 : ∀ {Q : cS → Prop}, wp ((Sum.elim (fun x60 : cS =>
      some x60)
    (Sum.elim (fun x61 : cS =>
      some x61)
    (fun x62 : Int32 × cS =>
      if ib x62.1 3840 then
      Option.bind (d_97 n 8 (x62.2.1 213 (ix x62.1)) x62.2) (fun r64 =>
      some r64)
      else none)) s : Option cS)) Q → wp (d_419 n (nI M) u0) Q := fun {Q} h => by
    rw [d419_s, e40, eM, h210]
    refine wpl (wpt hiM (wpl (wpe hx (wpt hib ?_))))
    rw [eb]
    refine wpl ?_
    rw [← hu2]
    exact wpe y2 h
  rcases y3 with ⟨d, q, k, rfl, rfl, a1, a2, a3, a4, a5, ⟨a6, a7⟩, a8, a9⟩ | ⟨z, rfl, y⟩
  · refine hC0 (wpSl (wp_of rfl (hR0 (wpSr (wpSl (wp_of rfl (Or.inl ⟨d, rfl, a1, a2, fun i hi => ⟨(a3 i hi).1, ?_⟩, a4⟩)))))))
    rcases (a3 i hi).2 with z | ⟨e, z1, z2⟩
    · exact Or.inl z
    · refine Or.inr (a8 i hi (by omega) ?_)
      rcases (a5 i hi).1 with y | y
      · have := (a7 i hi).mpr ⟨by rw [z2]; exact nI_nM z1, y⟩
        rw [Nat.zero_testBit] at this
        cases this
      · exact y
  · rcases y with ⟨y, q, rfl, b1, b2, b3⟩ | ⟨q, rfl, y⟩
    · refine hC0 (wpSr (wp_of rfl (hR0 (wpSr (wpSr ?_)))))
      dsimp only
      rw [show ix (nI y) = y from ix_n (by omega)]
      exact wpt (ib_n b1 (by decide)) (wpe (e97 b2) (wp_of rfl (Or.inr ⟨z, rfl, b3⟩)))
    · exact hC0 (wpSr (wp_of rfl (hR0 (wpSl (wp_of rfl (Or.inr ⟨z, rfl, y⟩))))))
/-! all METHODS -/
def dmC (n : Nat) (s2 : Int32 × cS) : Option ((Int32 × cS) ⊕ (cS ⊕ (cS ⊕ cS))) :=
    Option.bind (d_158 n s2.2) (fun v3 =>
    if v3 ≤ s2.1 then
      some (.inr (.inl s2.2))
    else
      Option.bind (d_157 n s2.1 s2.2) (fun v4 =>
      jn (fun p5 : cS =>
        lt (s2.1 + 1 : Int32) (fun v7 =>
        some (.inl (v7, p5))))
      (fun j46 =>
      if v4 = 0 then
        j46 s2.2
      else
        if ib s2.1 96 then
        if ib s2.1 96 then
        Option.bind (d_289 n (s2.2.1 119 (ix s2.1)) (s2.2.1 120 (ix s2.1)) s2.2) (Sum.elim (fun r11 =>
        j46 r11)
        (fun z12 => some (.inr (.inr (.inr z12)))))
        else none
        else none)))
theorem d288_s : d_288 n c = Option.bind (whl (dmC n) n (0, c))
  (Sum.elim (fun x13 : cS =>
    some (.inl x13))
  (fun x14 : (cS) ⊕ cS =>
    some x14)) := rfl
def dmR (n : Nat) (s19 : Int32 × cS) : Option ((Int32 × cS) ⊕ cS) :=
        if 96 ≤ s19.1 then
          some (.inr s19.2)
        else
          if (s19.2.1 174 13) = 0 then
            Option.bind (d_105 n s19.1 s19.2) (fun v20 =>
            jn (fun p21 : cS =>
              lt (s19.1 + 1 : Int32) (fun v23 =>
              some (.inl (v23, p21))))
            (fun j89 =>
            if v20 = 0 then
              j89 s19.2
            else
              Option.bind (d_419 n s19.1 s19.2) (fun r25 =>
              j89 r25)))
          else
            some (.inr s19.2)
theorem dmR_no (hC : CCS c u) (h13 : u.1 174 13 = nI 0) (hM : M < 96) (hm : mtb u M = false) : dmR n (nI M, u) = some (.inl (nI (M + 1), u)) := by
  unfold dmR
  dsimp only
  refine eq_wp (wpf (by simp (disch := first | omega | decide) only [↓neg1, nlit, rI, rL, rI2, rL1, nI_add, pk_mul, sbT, dvT, nmd, ixT, ↓ibT, ltT, ltF, leT, leF, eqT, eqF, nM_ltT, nM_ltF, nM_leT, nM_leF, nM_eqF, nM_eqF', nbT0, nbT1, oI_s, oI_n, natF, natT, nltT, nltF, nleT, nleF, ↓reduceIte, lgc, not_true_eq_false, not_false_eq_true, or_false, false_or, or_true, true_or, and_true, true_and, and_false, false_and, ne_eq, eq_self, or_self, and_self]) (wpt h13 (wpe (e105 AG_rfl hC hM) ?_)))
  rw [hm]
  refine wpj (wpt (by decide) (wpl ?_))
  rw [nI_1]
  rfl
theorem dmR_end (hC : CCS c u) (h13 : u.1 174 13 = nI 0) : ∀ (j : Nat) (M x : Nat), M + j = 96 → 8 * ccn u ≤ M → j < x → whl (dmR n) x (nI M, u) = some u
  | 0, M, x, h1, h2, h3 => by
    obtain ⟨y, rfl⟩ : ∃ y, x = y + 1 := ⟨x - 1, by omega⟩
    refine whl_out ?_
    unfold dmR
    dsimp only
    rw [show M = 96 by omega]
    exact eq_wp (wpt (by decide) rfl)
  | j + 1, M, x, h1, h2, h3 => by
    obtain ⟨y, rfl⟩ : ∃ y, x = y + 1 := ⟨x - 1, by omega⟩
    rw [whl_in (dmR_no hC h13 (by omega) (decide_eq_false (by omega)))]
    exact dmR_end hC h13 j (M + 1) y (by omega) (by omega) (by omega)
/-- what DEPTHS rest on: METHODS with their NAMES settled -/
def DALL (c0 u0 : cS) : Prop := CCS c0 u0 ∧ u0.1 174 13 = nI 0 ∧ (∀ M, mtb u0 M = true → M < 96 ∧ (1 ≤ acn u0 M ∧ acn u0 M ≤ 40) ∧ u0.1 210 M = nI (acn u0 M) ∧ c0.1 120 M = nI (acn u0 M) ∧ c0.1 119 M = nI (fa c0 M) ∧ fa c0 M + acn u0 M ≤ 1024 ∧ ∀ i, i < acn u0 M → ACD c0 u0 M (fa c0 M + i) (40 * M + i) ∧ c0.1 125 (fa c0 M + i) = nM) ∧ ∀ M M', mtb u0 M = true → mtb u0 M' = true → M < M' → fa c0 M + acn u0 M ≤ fa c0 M'
def qDT (T A l : Nat) : Bool := decide (A = 125 ∧ l < T)
def qDV (T A l : Nat) : Bool := decide ((A = 230 ∧ l < T) ∨ A = 231)
def DFX (c0 u0 d q : cS) : Prop := sx (qDT 1024) c0 d ∧ sx (qDV 3840) u0 q ∧ ∀ M, mtb u0 M = true → DPQ u0 d q M (fa c0 M) (acn u0 M)
theorem DPO_b (h : DPO u q M na i) (hu : ∀ A l, 200 ≤ A → A ≤ 216 → u.1 A l = u0.1 A l) : DPO u0 q M na i := by
  have e1 : tkn u (40 * M + i) = tkn u0 (40 * M + i) := by
    unfold tkn opn pM xN yN
    rw [hu 211 _ (by omega) (by omega), hu 214 _ (by omega) (by omega), hu 215 _ (by omega) (by omega), hu 207 _ (by omega) (by omega)]
  have e2 : gvn u (40 * M + i) = gvn u0 (40 * M + i) := by
    unfold gvn opn
    rw [hu 211 _ (by omega) (by omega)]
  have e3 : goesN u (40 * M + i) = goesN u0 (40 * M + i) := by
    unfold goesN opn
    rw [hu 211 _ (by omega) (by omega)]
  unfold DPO at h ⊢
  rw [e1, e2, e3, hu 216 _ (by omega) (by omega)] at h
  exact h
theorem DPQ_b (h : DPQ u d q M a0 na) (hu : ∀ A l, 200 ≤ A → A ≤ 216 → u.1 A l = u0.1 A l) : DPQ u0 d q M a0 na := ⟨fun i hi => ⟨(h.1 i hi).1, by
  rcases (h.1 i hi).2 with z | z
  · exact Or.inl z
  · exact Or.inr (DPO_b z hu)⟩, h.2⟩
theorem DPQ_cg (h : DPQ u0 c u M a0 na) (hn1 : 1 ≤ na) (hna : na ≤ 40) (hc : ∀ i, i < na → d.1 125 (a0 + i) = c.1 125 (a0 + i)) (hu : ∀ i, i < 40 → q.1 230 (40 * M + i) = u.1 230 (40 * M + i)) : DPQ u0 d q M a0 na := by
  refine ⟨fun i hi => ?_, by rw [show (40 * M : Nat) = 40 * M + 0 from rfl, hu 0 (by omega)]; exact h.2⟩
  rw [hc i hi, hu i (by omega)]
  refine ⟨(h.1 i hi).1, ?_⟩
  rcases (h.1 i hi).2 with z | ⟨d', p1, p2, p3, p4, p5, p6⟩
  · exact Or.inl z
  · refine Or.inr ⟨d', by rw [hu i (by omega)]; exact p1, p2, p3, p4, fun z => ⟨(p5 z).1, ?_⟩, fun t y1 y2 => ?_⟩
    · have := (p5 z).1
      rw [hu (i + 1) (by omega)]
      exact (p5 z).2
    · rw [hu t (by omega)]
      exact p6 t y1 y2
set_option maxHeartbeats 8000000 in
theorem dl_go (hn : 10000 ≤ n) (h : DALL c0 u0) : jw (d_288 n c0) (whl (dmR n) n (0, u0)) (fun r q => (∃ d, r = .inl d ∧ DFX c0 u0 d q) ∨ (∃ z, r = .inr z ∧ FLR c0 u0 z q)) := by
  obtain ⟨hC0, h13, hA, hF⟩ := h
  have h12 := (CCS_p hC0).1
  have key : jw (whl (dmC n) n (0, c0)) (whl (dmR n) n (0, u0)) (fun r q => (∃ d, r = .inl d ∧ DFX c0 u0 d q) ∨ (∃ z, r = .inr (.inr z) ∧ FLR c0 u0 z q)) := by
    refine jw_whr 100 (fun m (s : Int32 × cS) (t : Int32 × cS) => ∃ M T, M ≤ 8 * ccn u0 ∧ m = 8 * ccn u0 - M ∧ s.1 = nI M ∧ t.1 = nI M ∧ T ≤ 1024 ∧ (∀ M', M ≤ M' → mtb u0 M' = true → T ≤ fa c0 M') ∧ (∀ M', M' < M → mtb u0 M' = true → fa c0 M' + acn u0 M' ≤ T) ∧ sx (qDT T) c0 s.2 ∧ sx (qDV (40 * M)) u0 t.2 ∧ ∀ M', M' < M → mtb u0 M' = true → DPQ u0 s.2 t.2 M' (fa c0 M') (acn u0 M')) ?_ n n (8 * ccn u0) (0, c0) (0, u0) (by omega) (by omega) ⟨0, 0, by omega, rfl, rfl, rfl, by omega, fun _ _ _ => Nat.zero_le _, fun M' z => absurd z (Nat.not_lt_zero _), sx_rfl, sx_rfl, fun M' z => absurd z (Nat.not_lt_zero _)⟩
    rintro m ⟨s1, w⟩ ⟨s2, v⟩ ⟨M, T, hM, rfl, g1, g2, gT, gF, gG, g3, g4, g5⟩
    dsimp only at g1 g2 g3 g4 g5
    subst g1
    subst g2
    have D : ∀ A x, ¬ (A = 125 ∧ x < T) → w.1 A x = c0.1 A x ∧ w.2 A x = c0.2 A x := fun A x z => ⟨g3.1 _ _ (decide_eq_false z), g3.2 _ _ (decide_eq_false z)⟩
    have S : ∀ A x, ¬ ((A = 230 ∧ x < 40 * M) ∨ A = 231) → v.1 A x = u0.1 A x ∧ v.2 A x = u0.2 A x := fun A x z => ⟨g4.1 _ _ (decide_eq_false z), g4.2 _ _ (decide_eq_false z)⟩
    have hC : CCS w v := CCS_cg hC0 (fun A x z => D A x (by omega)) (fun A x z => S A x (by omega))
    have v13 : v.1 174 13 = nI 0 := by rw [(S _ _ (by omega)).1]; exact h13
    have eccv : ccn v = ccn u0 := by
      unfold ccn
      rw [(S _ _ (by omega)).1]
    have emt : ∀ M, mtb v M = mtb u0 M := fun M => by
      unfold mtb
      rw [eccv]
      unfold qM
      rw [(S _ _ (by omega)).1]
    have h158 : d_158 n w = some (nI (8 * ccn u0)) := by
      rw [← eccv]
      exact e158 hC
    by_cases e : M = 8 * ccn u0
    · refine Or.inr ⟨.inl w, v, ?_, fun x hx => dmR_end hC v13 (96 - M) M x (by omega) (by omega) (by omega), Or.inl ⟨w, rfl, ?_, ?_, fun M' m1 => ?_⟩⟩
      · unfold dmC
        dsimp only
        exact eq_wp (wpe h158 (wpt (by rw [e]; exact nI_le (Nat.le_refl _) (by omega)) rfl))
      · exact sx_wide g3 (fun A x z => by
          have := of_decide_eq_false z
          exact decide_eq_false (by omega))
      · exact sx_wide g4 (fun A x z => by
          have := of_decide_eq_false z
          exact decide_eq_false (by omega))
      · refine g5 M' ?_ m1
        have := (of_decide_eq_true m1).1
        omega
    have hM' : M < 8 * ccn u0 := by omega
    have hno : ¬ nI (8 * ccn u0) ≤ nI M := nI_ge (by omega) (by omega)
    have h157 := e157 (n := n) (M := M) hC (by omega)
    rw [emt] at h157
    cases hm : mtb u0 M with
    | false =>
      rw [hm] at h157
      refine Or.inl ⟨(nI (M + 1), w), (nI (M + 1), v), 8 * ccn u0 - (M + 1), ?_, dmR_no hC v13 (by omega) (by rw [emt]; exact hm), by omega, M + 1, T, by omega, rfl, rfl, rfl, gT, fun M' z1 z2 => gF M' (by omega) z2, fun M' z1 z2 => ?_, g3, sx_wide g4 (fun A x z => by
        have := of_decide_eq_false z
        exact decide_eq_false (by omega)), fun M' m3 m1 => ?_⟩
      · unfold dmC
        dsimp only
        refine eq_wp (wpe h158 (wpf hno (wpe h157 (wpj (wpt (by decide) (wpl ?_))))))
        rw [nI_1]
        rfl
      · by_cases eq : M' = M
        · rw [eq, hm] at z2
          cases z2
        · exact gG M' (by omega) z2
      · by_cases eq : M' = M
        · rw [eq, hm] at m1
          cases m1
        · exact g5 M' (by omega) m1
    | true =>
      rw [hm] at h157
      obtain ⟨hM96, hn1, k2, k3, k4, k5, k6⟩ := hA M hm
      have hTM := gF M (Nat.le_refl _) hm
      have hbs : DBS n w v M (fa c0 M) (acn u0 M) := by
        refine ⟨hC, hM96, k5, hn1, v13, ?_, fun i hi => ACD_cg (k6 i hi).1 (fun A l z => D A l (by unfold acW3 at z; omega)) (fun A l z => S A l (by unfold auW at z; omega))⟩
        unfold acn
        rw [(S _ _ (by omega)).1]
      obtain ⟨r, q, y1, y2, y3⟩ := jw_ex (dm_go (n := n) (by omega) hbs (fun i hi => by rw [(D _ _ (by omega)).1]; exact (k6 i hi).2) (by rw [(S _ _ (by omega)).1]; exact k2))
      have hiM : ib (nI M) 96 := ib_n hM96 (by decide)
      have eM : ix (nI M) = M := ix_n (by omega)
      have w119 : w.1 119 M = nI (fa c0 M) := by rw [(D _ _ (by omega)).1]; exact k4
      have w120 : w.1 120 M = nI (acn u0 M) := by rw [(D _ _ (by omega)).1]; exact k3
      have hR : dmR n (nI M, v) = some (.inl (nI (M + 1), q)) := by
        unfold dmR
        dsimp only
        refine eq_wp (wpf (by simp (disch := first | omega | decide) only [↓neg1, nlit, rI, rL, rI2, rL1, nI_add, pk_mul, sbT, dvT, nmd, ixT, ↓ibT, ltT, ltF, leT, leF, eqT, eqF, nM_ltT, nM_ltF, nM_leT, nM_leF, nM_eqF, nM_eqF', nbT0, nbT1, oI_s, oI_n, natF, natT, nltT, nltF, nleT, nleF, ↓reduceIte, lgc, not_true_eq_false, not_false_eq_true, or_false, false_or, or_true, true_or, and_true, true_and, and_false, false_and, ne_eq, eq_self, or_self, and_self]) (wpt v13 (wpe (e105 AG_rfl hC (by omega)) ?_)))
        rw [emt, hm]
        refine wpj (wpf (by decide) (wpe y2 (wpl ?_)))
        rw [nI_1]
        rfl
      rcases y3 with ⟨d, rfl, z1, z2, z3⟩ | ⟨z, rfl, hf⟩
      · refine Or.inl ⟨(nI (M + 1), d), (nI (M + 1), q), 8 * ccn u0 - (M + 1), ?_, hR, by omega, M + 1, fa c0 M + acn u0 M, by omega, rfl, rfl, rfl, by omega, fun M' m1 m2 => hF M M' hm m2 (by omega), fun M' m1 m2 => ?_, ?_, ?_, fun M' m3 m1 => ?_⟩
        · unfold dmC
          dsimp only
          rw [eM, w119, w120]
          refine eq_wp (wpe h158 (wpf hno (wpe h157 (wpj (wpf (by decide) (wpt hiM (wpt hiM (wpe y1 (wpSl (wpl ?_))))))))))
          rw [nI_1]
          rfl
        · by_cases eq : M' = M
          · rw [eq]
            omega
          · have := gG M' (by omega) m2
            omega
        · exact sx_trans (sx_wide g3 (fun A x z => by
            have := of_decide_eq_false z
            exact decide_eq_false (by omega))) (sx_wide z1 (fun A x z => by
            have := of_decide_eq_false z
            exact decide_eq_false (by omega)))
        · exact sx_trans (sx_wide g4 (fun A x z => by
            have := of_decide_eq_false z
            exact decide_eq_false (by omega))) (sx_wide z2 (fun A x z => by
            have := of_decide_eq_false z
            exact decide_eq_false (by omega)))
        · by_cases eq : M' = M
          · subst eq
            exact DPQ_b z3 (fun A l z1 z2 => (S A l (by omega)).1)
          · have hb1 := gG M' (by omega) m1
            obtain ⟨-, ⟨n1', n2'⟩, -⟩ := hA M' m1
            exact DPQ_cg (g5 M' (by omega) m1) n1' n2' (fun i hi => z1.1 _ _ (decide_eq_false (by omega))) (fun i hi => z2.1 _ _ (decide_eq_false (by omega)))
      · refine Or.inr ⟨.inr (.inr z), q, ?_, fun x hx => ?_, Or.inr ⟨z, rfl, ?_⟩⟩
        · unfold dmC
          dsimp only
          rw [eM, w119, w120]
          exact eq_wp (wpe h158 (wpf hno (wpe h157 (wpj (wpf (by decide) (wpt hiM (wpt hiM (wpe y1 (wpSr rfl)))))))))
        · obtain ⟨x1, rfl⟩ : ∃ x1, x = x1 + 1 + 1 := ⟨x - 2, by omega⟩
          rw [whl_in hR]
          refine whl_out ?_
          unfold dmR
          dsimp only
          exact eq_wp (wpi (fun _ => rfl) (fun _ => wpf (ne13 hf.2.2.1) rfl))
        · exact FLR_tr hf (sx_wide g3 (fun A x z => by
            have := of_decide_eq_false z
            exact decide_eq_false (by omega))) (sx_wide g4 (fun A x z => by
            have := of_decide_eq_false z
            exact decide_eq_false (by omega)))
  obtain ⟨r, q, y1, y2, y3⟩ := jw_ex key
  rw [d288_s]
  rcases y3 with ⟨d, rfl, z1⟩ | ⟨z, rfl, hf⟩
  · exact wpe y1 (wp_of rfl (wp_of y2 (Or.inl ⟨d, rfl, z1⟩)))
  · exact wpe y1 (wp_of rfl (wp_of y2 (Or.inr ⟨z, rfl, hf⟩)))
end DPG
