/-! READING a KIND: its MEMBERS, the loop -/
section MES
variable {n i j N k p : Nat} {c d u w v v0 c' u' : cS} {K P : Nat → Nat} {V : Nat → Int64} {nm val : Int64} {T : Bool}
theorem kn_of (h : MBD w v k p) : kn v k = p := by
  unfold kn
  rw [h.2.2.1, ix_n (by have := h.1; omega)]
theorem mbC_go {Q : mbT → Prop} (hn : 1000 ≤ n) (hP : PSI K P V N w v i) (hM : MBD w v k p) (h : wp (Option.bind (some (nnC K P V w i (if (jOf v k (w.2 5 i)).isSome = true then 1 else 0) (if p < 4 then 0 else 1))) (Sum.elim (fun r8 : Int64 × cS =>
            Option.bind (d_257 n 58 r8.2) (Sum.elim (mb2 n k (nI p) r8.1)
            (fun z12 => some (.inr (.inr (.inr z12))))))
            (fun z9 => some (.inr (.inr (.inr z9)))))) Q) : wp (mbC n k (bI true, nI p, w)) Q := by
  have hkK := PSI_K hP
  have hp4 := hM.1
  have hkn := kn_of hM
  have h218 := e218 (n := n) (d := k) (v := w.2 5 i) (c := w) (m := v) (by omega) (by omega) (by rw [hkn]; exact hM.2.1) (fun j hj => (hM.2.2.2.1 j (by omega)).1)
  unfold mbC
  dsimp only
  rw [hP.2.2.1, ix_n (by omega), hM.2.1]
  refine wpf (by simp (disch := first | omega | decide) only [↓neg1, nlit, rI, rL, rI2, rL1, nI_add, pk_mul, sbT, dvT, nmd, ixT, ↓ibT, ltT, ltF, leT, leF, eqT, eqF, nM_ltT, nM_ltF, nM_leT, nM_leF, nM_eqF, nM_eqF', nbT0, nbT1, oI_s, oI_n, natF, natT, nltT, nltF, nleT, nleF, ↓reduceIte, lgc, not_true_eq_false, not_false_eq_true, or_false, false_or, or_true, true_or, and_true, true_and, and_false, false_and, ne_eq, eq_self, or_self, and_self]) (wpf (show ¬ bI true = 0 by decide) (wpt (ib_n (by omega) (by decide)) (wpe h218 (wpj ?_))))
  have hin : ∀ {x : Int32}, x = (if (jOf v k (w.2 5 i)).isSome = true then 1 else 0) → wp (jn (fun p7 : Int32 =>
            Option.bind (d_260 n x p7 w) (Sum.elim (fun r8 =>
            Option.bind (d_257 n 58 r8.2) (Sum.elim (mb2 n k (nI p) r8.1)
            (fun z12 => some (.inr (.inr (.inr z12))))))
            (fun z9 => some (.inr (.inr (.inr z9))))))
          (fun j51 =>
          if nI p < 4 then
            j51 0
          else
            j51 1)) Q := fun {x} hx => by
    refine wpj ?_
    rw [← hx] at h
    by_cases e4 : p < 4
    · rw [if_pos e4] at h
      exact wpt (by simp (disch := first | omega | decide) only [↓neg1, nlit, rI, rL, rI2, rL1, nI_add, pk_mul, sbT, dvT, nmd, ixT, ↓ibT, ltT, ltF, leT, leF, eqT, eqF, nM_ltT, nM_ltF, nM_leT, nM_leF, nM_eqF, nM_eqF', nbT0, nbT1, oI_s, oI_n, natF, natT, nltT, nltF, nleT, nleF, ↓reduceIte, lgc, not_true_eq_false, not_false_eq_true, or_false, false_or, or_true, true_or, and_true, true_and, and_false, false_and, ne_eq, eq_self, or_self, and_self]) (wpe (e260 hP) h)
    · rw [if_neg e4] at h
      exact wpf (by simp (disch := first | omega | decide) only [↓neg1, nlit, rI, rL, rI2, rL1, nI_add, pk_mul, sbT, dvT, nmd, ixT, ↓ibT, ltT, ltF, leT, leF, eqT, eqF, nM_ltT, nM_ltF, nM_leT, nM_leF, nM_eqF, nM_eqF', nbT0, nbT1, oI_s, oI_n, natF, natT, nltT, nltF, nleT, nleF, ↓reduceIte, lgc, not_true_eq_false, not_false_eq_true, or_false, false_or, or_true, true_or, and_true, true_and, and_false, false_and, ne_eq, eq_self, or_self, and_self]) (wpe (e260 hP) h)
  cases hj : jOf v k (w.2 5 i) with
  | none => exact wpt (show nM < 0 by decide) (hin (by rw [hj]; rfl))
  | some q =>
    have := (ff_some hj).1
    rw [oI_s]
    exact wpf (nI_pos (by omega)) (hin (by rw [hj]; rfl))
theorem mem_go (hn : 1000 ≤ n) (hk : k < 12) (hP : PSI K P V N w v i) (hM : MBD w v k p) : MEX K P V N n (mbC n k (bI true, nI p, w)) (d_401 n (nI k) v) w v k p (i + 1) := by
  have hkK := PSI_K hP
  have hp4 := hM.1
  have hkn := kn_of hM
  have hik : ib (nI k) 12 := ib_n hk (by decide)
  have h381 := e381 (n := n) hP
  have ei : ix (nI i) = i := ix_n (by omega)
  have ek : ix (nI k) = k := ix_n (by omega)
  have hii : ib (nI i) 4001 := ib_n (by omega) (by decide)
  by_cases e1 : K i = 1
  rotate_left
  · rw [if_neg e1] at h381
    refine Or.inl ⟨_, _, eq_wp (mbC_go hn hP hM ?_), ?_, FLR_of (k := 2) (p := nI (P i)) sx_rfl sx_rfl⟩
    · unfold nnC
      rw [if_neg e1]
      exact wpe rfl (wpSr rfl)
    · rw [d401_s]
      exact eq_wp (wpl (wpe h381 (wpf (by rw [flt_at.1]; decide) rfl)))
  rw [if_pos e1] at h381
  have hP1 := PSI_s hP (by omega)
  have hv5 := (val_at hP e1).1
  have ra : ∀ A j, ¬ (A = 174 ∧ j = 67) → (atR v (i + 1)).1 A j = v.1 A j := fun A j z => by
    unfold atR
    rw [rI, if_neg z]
  have h378 : d_378 n (nI k) (V i) (atR v (i + 1)) = some (oI (jOf v k (V i))) := by
    have := e378 (n := n) (d := k) (v := V i) (m := atR v (i + 1)) (u := atR v (i + 1)) (by omega) AG_rfl hk (by rw [kn_cg (u := v) (fun j => ra _ _ (by omega))]; omega) (by rw [kn_cg (u := v) (fun j => ra _ _ (by omega)), ra _ _ (by omega), hkn]; exact hM.2.2.1)
    rw [this, jOf_cg (u := v) (fun j => ra _ _ (by omega)) (fun _ => rfl)]
  have a9 : (atR v (i + 1)).1 179 i = nI (P i) := by
    rw [ra _ _ (by omega)]
    exact (hP.1.2.2.1 i hP.2.1).2.2.1
  have a190 : (atR v (i + 1)).1 190 k = nI p := by
    rw [ra _ _ (by omega)]
    exact hM.2.2.1
  have hR : ∀ {Q : cS → Prop}, wp (mr1 n (nI k) (nI i) (V i) (oI (jOf v k (V i))) (atR v (i + 1))) Q → wp (d_401 n (nI k) v) Q := fun {Q} hQ => by
    rw [d401_s, hP.2.2.2.1]
    exact wpl (wpe h381 (wpt hP1.2.2.2.2 (wpe h378 hQ)))
  have wrg : ∀ {z : cS}, z.1 174 13 = nI 1 → Option.bind (d_380 n 58 z) (mr2 n (nI k) (V i)) = some z := fun {z} hz => by
    rw [show d_380 n 58 z = some z from e380w hz]
    show mr2 n (nI k) (V i) z = _
    unfold mr2
    rw [hz]
    rfl
  have hC : ∀ {Q : mbT → Prop}, wp (Option.bind (some (nnC K P V w i (if (jOf v k (V i)).isSome = true then 1 else 0) (if p < 4 then 0 else 1))) (Sum.elim (fun r8 : Int64 × cS =>
            Option.bind (d_257 n 58 r8.2) (Sum.elim (mb2 n k (nI p) r8.1)
            (fun z12 => some (.inr (.inr (.inr z12))))))
            (fun z9 => some (.inr (.inr (.inr z9)))))) Q → wp (mbC n k (bI true, nI p, w)) Q := fun {Q} hQ => by
    refine mbC_go hn hP hM ?_
    rw [hv5]
    exact hQ
  unfold nnC at hC
  rw [if_pos e1] at hC
  cases hj : jOf v k (V i) with
  | some q =>
    rw [hj, if_pos (show (some q).isSome = true from rfl), if_neg (show ¬ (1 : Int32) = 0 by decide)] at hC
    rw [hj, oI_s] at hR
    have hq4 := (ff_some hj).1
    obtain ⟨z, hz⟩ : ∃ z, z = flt (atR v (i + 1)) 3 (nI (P i)) := ⟨_, rfl⟩
    have z13 : z.1 174 13 = nI 1 := by rw [hz]; exact flt_at.1
    refine Or.inl ⟨_, z, eq_wp (hC (wpe rfl (wpSr rfl))), eq_wp (hR ?_), ?_⟩
    · unfold mr1
      refine wpj (wpf (nI_pos (by omega)) (wpt hii ?_))
      rw [ei, a9]
      refine wpe (e97 hP1.2.2.2.2) ?_
      rw [← hz]
      refine wpt hik (wpj ?_)
      by_cases e4 : z.1 190 (ix (nI k)) = 4
      · exact wpt e4 (wpt hii (wpe (e97w z13) (wp_of (wrg z13) rfl)))
      · exact wpf e4 (wp_of (wrg z13) rfl)
    · rw [hz]
      exact FLR_of sx_rfl atR_sx
  | none =>
    rw [hj, if_neg (show ¬ (none : Option Nat).isSome = true by decide), if_pos rfl] at hC
    rw [hj] at hR
    by_cases e4 : p < 4
    rotate_left
    · rw [if_neg e4, if_neg (show ¬ (1 : Int32) = 0 by decide)] at hC
      obtain ⟨z, hz⟩ : ∃ z, z = flt (atR v (i + 1)) 6 (nI (P i)) := ⟨_, rfl⟩
      have z13 : z.1 174 13 = nI 1 := by rw [hz]; exact flt_at.1
      refine Or.inl ⟨_, z, eq_wp (hC (wpe rfl (wpSr rfl))), eq_wp (hR ?_), ?_⟩
      · unfold mr1
        refine wpj (wpt (show nM < 0 by decide) (wpt hik (wpj ?_)))
        rw [ek, a190, ei, a9]
        refine wpt (by rw [show p = 4 by omega]; rfl) (wpt hii (wpe (e97 hP1.2.2.2.2) ?_))
        rw [← hz]
        exact wp_of (wrg z13) rfl
      · rw [hz]
        exact FLR_of sx_rfl atR_sx
    · rw [if_pos e4, if_pos rfl] at hC
      have hR1 : ∀ {Q : cS → Prop}, wp (Option.bind (d_380 n 58 (atR v (i + 1))) (mr2 n (nI k) (V i))) Q → wp (d_401 n (nI k) v) Q := fun {Q} hQ => by
        refine hR ?_
        unfold mr1
        refine wpj (wpt (show nM < 0 by decide) (wpt hik (wpj ?_)))
        rw [ek, a190]
        exact wpf (fun z => absurd ((nI_eq (by omega) (by decide)).mp (show _ = nI 4 from z)) (by omega)) hQ
      have h257 := e257 (n := n) (b := 58) hP1 (by decide)
      have h380 := e380 (n := n) (b := 58) hP1 (by decide) (by decide)
      by_cases e58 : K (i + 1) = 58
      rotate_left
      · rw [if_neg e58] at h257 h380
        refine Or.inl ⟨flC (atC w (i + 1)) 2 (nI (P (i + 1))), flt (atR v (i + 1)) 2 (nI (P (i + 1))), eq_wp (hC (wpe rfl (wpSl (wpe h257 (wpSr rfl))))), eq_wp (hR1 (wpe h380 ?_)), FLR_of atC_sx atR_sx⟩
        unfold mr2
        exact wpf (by rw [flt_at.1]; decide) rfl
      · rw [if_pos e58] at h257 h380
        have hP2 := PSI_s hP1 (by omega)
        have hM2 : MBD (atC (atC w (i + 1)) (i + 1 + 1)) (atR (atR v (i + 1)) (i + 1 + 1)) k p := MBD_cg hM (fun A l z1 z2 => ⟨by
          unfold atC
          rw [rI, if_neg (by unfold kA at *; omega), rI, if_neg (by unfold kA at *; omega)], rfl⟩) (fun A l z1 z2 => ⟨by
          unfold atR
          rw [rI, if_neg (by omega), rI, if_neg (by omega)], rfl⟩)
        have hfr : ff (fun l => decide ((atR (atR v (i + 1)) (i + 1 + 1)).2 191 (4 * k + l) = V i)) p = none := by
          unfold jOf at hj
          rw [hkn] at hj
          exact hj
        exact MEX_up (mem2 (n := n) hk hP2 hM2 e4 hfr) hk (fun Q hQ => hC (wpe rfl (wpSl (wpe h257 (wpSl hQ))))) (fun Q hQ => hR1 (wpe h380 hQ)) (by omega) (sx_pI (sx_pI sx_rfl (decide_eq_true (by omega))) (decide_eq_true (by omega))) (sx_pI (sx_pI sx_rfl (decide_eq_true (by omega))) (decide_eq_true (by omega)))
def mlpR (n : Nat) (v4 : Int32) (s55 : Int32 × cS) : Option ((Int32 × cS) ⊕ cS) :=
        if s55.1 = 0 then
          some (.inr s55.2)
        else
          if (s55.2.1 174 13) = 0 then
            Option.bind (d_401 n v4 s55.2) (fun r56 =>
            Option.bind (d_379 n 44 r56) (fun r57 =>
            some (.inl (r57.1, r57.2))))
          else
            some (.inr s55.2)
def mlpX (n : Nat) (v4 : Int32) (u : cS) : Option cS :=
      Option.bind (whl (mlpR n v4) n (1, u))
      (fun x59 : cS =>
        d_380 n 41 x59)
def MSP (K P : Nat → Nat) (V : Nat → Int64) (N : Nat) (c u : cS) (k i : Nat) (r : cS ⊕ cS) (q : cS) : Prop := (∃ d j p, r = .inl d ∧ i ≤ j ∧ PSI K P V N d q j ∧ MBD d q k p ∧ sx (qMBc k) c d ∧ sx (qMBu k) u q) ∨ (∃ z, r = .inr z ∧ FLR c u z q)
def MSI (K P : Nat → Nat) (V : Nat → Int64) (N : Nat) (c u : cS) (k i0 m : Nat) (s : Int32 × Int32 × cS) (t : Int32 × cS) : Prop := ∃ i p b, s.1 = bI b ∧ t.1 = bI b ∧ s.2.1 = nI p ∧ i0 ≤ i ∧ m = N - i + (if b = true then 1 else 0) ∧ PSI K P V N s.2.2 t.2 i ∧ MBD s.2.2 t.2 k p ∧ sx (qMBc k) c s.2.2 ∧ sx (qMBu k) u t.2
def MSX (K P : Nat → Nat) (V : Nat → Int64) (N : Nat) (c u : cS) (k i0 : Nat) (r : cS ⊕ (cS ⊕ cS)) (q : cS) : Prop := (∃ d j p, r = .inl d ∧ i0 ≤ j ∧ PSI K P V N d q j ∧ MBD d q k p ∧ sx (qMBc k) c d ∧ sx (qMBu k) u q) ∨ (∃ z, r = .inr (.inr z) ∧ FLR c u z q)
theorem mem_lp (hn : 10000 ≤ n) (hk : k < 12) (h : PSI K P V N c u i) (hM : MBD c u k 0) : jw (whl (mbC n k) n (1, 0, c)) (whl (mlpR n (nI k)) n (1, u)) (MSX K P V N c u k i) := by
  have hN := h.1.1
  refine jw_whf (MSI K P V N c u k i) ?_ n n (N - i + 1) _ _ (by omega) (by omega) ⟨i, 0, true, rfl, rfl, rfl, Nat.le_refl _, rfl, h, hM, sx_rfl, sx_rfl⟩
  rintro m ⟨s1, s2, w⟩ ⟨t1, v⟩ ⟨i', p, b, g1, g2, g3, g4, g5, g6, g7, g8, g9⟩
  dsimp only at g1 g2 g3 g6 g7 g8 g9
  subst g1 g2 g3
  have hp4 := g7.1
  cases b with
  | false =>
    refine jw_of (a := .inr (.inl w)) (b := .inr v) ?_ ?_ (Or.inr (Or.inl ⟨_, _, rfl, rfl, Or.inl ⟨w, i', p, rfl, g4, g6, g7, g8, g9⟩⟩))
    · unfold mbC
      dsimp only
      rw [if_neg (show ¬ (4 : Int32) < nI p by simp (disch := first | omega | decide) only [↓neg1, nlit, rI, rL, rI2, rL1, nI_add, pk_mul, sbT, dvT, nmd, ixT, ↓ibT, ltT, ltF, leT, leF, eqT, eqF, nM_ltT, nM_ltF, nM_leT, nM_leF, nM_eqF, nM_eqF', nbT0, nbT1, oI_s, oI_n, natF, natT, nltT, nltF, nleT, nleF, ↓reduceIte, lgc, not_true_eq_false, not_false_eq_true, or_false, false_or, or_true, true_or, and_true, true_and, and_false, false_and, ne_eq, eq_self, or_self, and_self])]
      rfl
    · rfl
  | true =>
    have hR : ∀ {q : cS} {Q : ((Int32 × cS) ⊕ cS) → Prop}, d_401 n (nI k) v = some q → wp (Option.bind (d_379 n 44 q) (fun r57 => some (.inl (r57.1, r57.2)))) Q → wp (mlpR n (nI k) (bI true, v)) Q := fun {q Q} h1 h2 => by
      unfold mlpR
      exact wpf (show ¬ bI true = 0 by decide) (wpt g6.2.2.2.2 (wpe h1 h2))
    rcases mem_go (n := n) (by omega) hk g6 g7 with ⟨z, q, h1, h2, h3⟩ | ⟨d, q, j', h1, h2, h3, h4, h5, h6, h7⟩
    · refine wp_of h1 (hR h2 (wpe (e379w h3.2.2.1) (wp_of rfl (Or.inr (Or.inr ⟨_, _, q, rfl, rfl, rfl, Or.inr ⟨z, rfl, FLR_tr h3 (qMBc_c hk g8) (qMBu_u g9)⟩⟩)))))
    · have h258 := e258 (n := n) (b := 44) h4 (by decide)
      have h379 := e379 (n := n) (b := 44) h4 (by decide) (by decide)
      have hj' := h4.2.1
      have sC := sx_trans g8 h6
      have sU := sx_trans g9 h7
      refine h1 _ ?_
      unfold mbE
      by_cases e : K j' = 44
      · rw [if_pos e] at h258 h379
        have hlt := PSI_lt h4 (by omega)
        refine wpe h258 (wp_of rfl (hR h2 (wpe h379 (wp_of rfl (Or.inl ⟨_, _, N - (j' + 1) + 1, rfl, rfl, by rw [g5, if_pos rfl]; omega, j' + 1, p + 1, true, rfl, rfl, rfl, by omega, rfl, PSI_s h4 (by omega), MBD_cg h5 (fun A l z1 z2 => ⟨by
          show (atC d (j' + 1)).1 A l = _
          unfold atC
          rw [rI, if_neg (by unfold kA at *; omega)], rfl⟩) (fun A l z1 z2 => ⟨by
          show (atR q (j' + 1)).1 A l = _
          unfold atR
          rw [rI, if_neg (by omega)], rfl⟩), sx_pI sC (decide_eq_true (by omega)), sx_pI sU (decide_eq_true (by omega))⟩)))))
      · rw [if_neg e] at h258 h379
        refine wpe h258 (wp_of rfl (hR h2 (wpe h379 (wp_of rfl (Or.inl ⟨_, _, N - j' + 0, rfl, rfl, by rw [g5, if_pos rfl]; omega, j', p + 1, false, rfl, rfl, rfl, by omega, rfl, h4, h5, sC, sU⟩)))))
theorem mems_go (hn : 10000 ≤ n) (hk : k < 12) (h : PSI K P V N c u i) (hM : MBD c u k 0) : jw (d_265 n k c) (mlpX n (nI k) u) (MSP K P V N c u k i) := by
  rw [d265_s]
  unfold mlpX
  refine jwb (mem_lp hn hk h hM) (fun r q hr => ?_)
  rcases hr with ⟨d, j, p, rfl, h1, h2, h3, h4, h5⟩ | ⟨z, rfl, hf⟩
  · have h257 := e257 (n := n) (b := 41) h2 (by decide)
    have h380 := e380 (n := n) (b := 41) h2 (by decide) (by decide)
    by_cases e : K j = 41
    · rw [if_pos e] at h257 h380
      exact jw_of (a := .inl (atC d (j + 1))) (b := atR q (j + 1)) (eq_wp (wpSl (wpe h257 (wpSl rfl)))) h380 (Or.inl ⟨_, j + 1, p, rfl, by omega, PSI_s h2 (by omega), MBD_cg h3 (fun A l z1 z2 => ⟨by
          unfold atC
          rw [rI, if_neg (by unfold kA at *; omega)], rfl⟩) (fun A l z1 z2 => ⟨by
          unfold atR
          rw [rI, if_neg (by omega)], rfl⟩), sx_pI h4 (decide_eq_true (by omega)), sx_pI h5 (decide_eq_true (by omega))⟩)
    · rw [if_neg e] at h257 h380
      exact jw_of (a := .inr (flC d 2 (nI (P j)))) (b := flt q 2 (nI (P j))) (eq_wp (wpSl (wpe h257 (wpSr rfl)))) h380 (Or.inr ⟨_, rfl, FLR_of (qMBc_c hk h4) (qMBu_u h5)⟩)
  · exact jw_of (a := .inr z) (b := q) rfl (e380w hf.2.2.1) (Or.inr ⟨z, rfl, hf⟩)
end MES
