/-! READING ORDERS, KINDS and MAKERS: the loops -/
section FRT
variable {n i j N k m b U oc kc mc : Nat} {c d u q c0 u0 v : cS} {K P : Nat → Nat} {V : Nat → Int64} {nm : Int64}
def lpC (n : Nat) (b : Int32) (X : cS → Option (cS ⊕ cS)) (s2 : Int32 × cS) : Option ((Int32 × cS) ⊕ (cS ⊕ (cS ⊕ cS))) :=
    if 4000 ≤ s2.1 then
      some (.inr (.inl s2.2))
    else
      Option.bind (d_43 n s2.2) (fun v3 =>
      if v3 = b then
        Option.bind (X s2.2) (Sum.elim (fun r4 =>
        lt (s2.1 + 1 : Int32) (fun v7 =>
        some (.inl (v7, r4))))
        (fun z5 => some (.inr (.inr (.inr z5)))))
      else
        some (.inr (.inl s2.2)))
def lpR (n : Nat) (b : Int32) (Y : cS → Option cS) (s20 : cS) : Option (cS ⊕ cS) :=
      if (s20.1 174 13) = 0 then
        Option.bind (d_102 n b s20) (fun r21 =>
        if r21.1 = 0 then
          some (.inr r21.2)
        else
          Option.bind (Y r21.2) (fun r22 =>
          some (.inl r22)))
      else
        some (.inr s20)
theorem lpR_w {b : Int32} {Y : cS → Option cS} (h : v.1 174 13 = nI 1) : lpR n b Y v = some (.inr v) := by
  unfold lpR
  exact eq_wp (wpf (ne13 h) rfl)
theorem lpR_ww {b : Int32} {Y : cS → Option cS} (hn : 0 < n) (h : v.1 174 13 = nI 1) : whl (lpR n b Y) n v = some v := by
  obtain ⟨k, hk⟩ : ∃ k, n = k + 1 := ⟨n - 1, by omega⟩
  have : whl (lpR n b Y) (k + 1) v = some v := whl_out (lpR_w h)
  rw [← hk] at this
  exact this
theorem stm_lp {I : cS → cS → Nat → Prop} {X : cS → Option (cS ⊕ cS)} {Y : cS → Option cS} (hn : 10000 ≤ n) (hb : b < 31) (hI : ∀ c u i, I c u i → PSI K P V N c u i ∧ sx QRc c0 c ∧ sx QRu u0 u) (hst : ∀ c u i, I c u i → K i = 200 + b → jw (X c) (Y (atR u (i + 1))) (fun r q => (∃ d i', r = .inl d ∧ i < i' ∧ I d q i') ∨ (∃ z, r = .inr z ∧ FLR c u z q))) (h0 : I c u i) : jw (whl (lpC n (nI (200 + b)) X) n (0, c)) (whl (lpR n (nI b) Y) n u) (fun r q => (∃ d i', r = .inl d ∧ i ≤ i' ∧ I d q i' ∧ ¬ K i' = 200 + b) ∨ (∃ z, r = .inr (.inr z) ∧ FLR c0 u0 z q)) := by
  have hP := (hI _ _ _ h0).1
  have hN := hP.1.1
  refine jw_whf (fun m (s : Int32 × cS) t => ∃ i' k, s.1 = nI k ∧ k ≤ i' ∧ i ≤ i' ∧ m = N - i' ∧ I s.2 t i') ?_ n n (N - i) _ _ (by omega) (by omega) ⟨i, 0, rfl, by omega, Nat.le_refl _, rfl, h0⟩
  rintro m ⟨s1, w⟩ v ⟨i', k, g1, g2, g3, g4, g5⟩
  dsimp only at g1 g5
  subst g1
  obtain ⟨p1, p2, p3⟩ := hI _ _ _ g5
  have hkK := PSI_K p1
  have h102 := e102 (n := n) (b := b) p1 hb
  have h43 := e43 (n := n) p1
  by_cases e : K i' = 200 + b
  rotate_left
  · rw [if_neg e] at h102
    refine jw_of (a := .inr (.inl w)) (b := .inr v) ?_ ?_ (Or.inr (Or.inl ⟨_, _, rfl, rfl, Or.inl ⟨w, i', rfl, g3, g5, e⟩⟩))
    · unfold lpC
      by_cases e4 : (4000 : Int32) ≤ nI k
      · exact eq_wp (wpt e4 rfl)
      · exact eq_wp (wpf e4 (wpe h43 (wpf (fun z => e ((nI_eq (by omega) (by omega)).mp z)) rfl)))
    · unfold lpR
      exact eq_wp (wpt p1.2.2.2.2 (wpe h102 (wpt rfl rfl)))
  rw [if_pos e] at h102
  have hlt := PSI_lt p1 (by omega)
  obtain ⟨r, q, y1, y2, y3⟩ := jw_ex (hst _ _ _ g5 e)
  have hR : lpR n (nI b) Y v = some (.inl q) := by
    unfold lpR
    exact eq_wp (wpt p1.2.2.2.2 (wpe h102 (wpf (show ¬ (1 : Int32) = 0 by decide) (wpe y2 rfl))))
  rcases y3 with ⟨d, i2, rfl, z1, z2⟩ | ⟨z, rfl, hf⟩
  · have hN2 := (hI _ _ _ z2).1.2.1
    refine jw_of (a := .inl (nI (k + 1), d)) ?_ hR (Or.inl ⟨_, _, N - i2, rfl, rfl, by omega, i2, k + 1, rfl, by omega, by omega, rfl, z2⟩)
    unfold lpC
    refine eq_wp (wpf (by simp (disch := first | omega | decide) only [↓neg1, nlit, rI, rL, rI2, rL1, nI_add, pk_mul, sbT, dvT, nmd, ixT, ↓ibT, ltT, ltF, leT, leF, eqT, eqF, nM_ltT, nM_ltF, nM_leT, nM_leF, nM_eqF, nM_eqF', nbT0, nbT1, oI_s, oI_n, natF, natT, nltT, nltF, nleT, nleF, ↓reduceIte, lgc, not_true_eq_false, not_false_eq_true, or_false, false_or, or_true, true_or, and_true, true_and, and_false, false_and, ne_eq, eq_self, or_self, and_self]) (wpe h43 (wpt (by rw [e]) (wpe y1 (wpSl (wpl ?_))))))
    dsimp only
    rw [nI_1]
    rfl
  · refine jw_of (a := .inr (.inr (.inr z))) ?_ hR (Or.inr (Or.inr ⟨_, _, q, rfl, rfl, lpR_w hf.2.2.1, Or.inr ⟨z, rfl, FLR_tr hf p2 p3⟩⟩))
    unfold lpC
    exact eq_wp (wpf (by simp (disch := first | omega | decide) only [↓neg1, nlit, rI, rL, rI2, rL1, nI_add, pk_mul, sbT, dvT, nmd, ixT, ↓ibT, ltT, ltF, leT, leF, eqT, eqF, nM_ltT, nM_ltF, nM_leT, nM_leF, nM_eqF, nM_eqF', nbT0, nbT1, oI_s, oI_n, natF, natT, nltT, nltF, nleT, nleF, ↓reduceIte, lgc, not_true_eq_false, not_false_eq_true, or_false, false_or, or_true, true_or, and_true, true_and, and_false, false_and, ne_eq, eq_self, or_self, and_self]) (wpe h43 (wpt (by rw [e]) (wpe y1 (wpSr rfl)))))
def ZRF (c u : cS) (kc mc : Nat) : Prop := ∀ r, r < 2242 → ¬ (1200 ≤ r ∧ r < 1200 + kc) → ¬ (1212 ≤ r ∧ r < 1212 + mc) → c.1 144 r = nI 0 ∧ (r < 1218 → u.1 222 r = nI 0)
def RDF (K P : Nat → Nat) (V : Nat → Int64) (N : Nat) (c0 u0 : cS) (oc kc mc U : Nat) (c u : cS) (i : Nat) : Prop := PSI K P V N c u i ∧ NMR c u oc kc mc 0 ∧ FRN c u oc kc mc U ∧ (c.1 133 11 = nI U ∧ c.1 133 12 = nM ∧ c.1 133 13 = nI U ∧ c.1 114 7 = nI 0) ∧ 2 * U ≤ i ∧ ZRF c u kc mc ∧ sx QRc c0 c ∧ sx QRu u0 u
theorem RDF_o (hn : 10000 ≤ n) (h : RDF K P V N c0 u0 oc 0 0 0 c u i) (hk : K i = 200) : jw (d_262 n c) (d_386 n (atR u (i + 1))) (fun r q => (∃ d i', r = .inl d ∧ i < i' ∧ ∃ oc', RDF K P V N c0 u0 oc' 0 0 0 d q i') ∨ (∃ z, r = .inr z ∧ FLR c u z q)) := by
  obtain ⟨h1, h2, h3, ⟨h4, h5, h6, h6a⟩, h7, h8, h9, h10⟩ := h
  obtain ⟨r, q, y1, y2, y3⟩ := jw_ex (ord_go hn h1 hk h2 h3.1 h3.2.1)
  refine jw_of y1 y2 ?_
  rcases y3 with ⟨d, i', rfl, a1, a2, a3, a4, a5, a6, a7⟩ | ⟨z, rfl, hf⟩
  · refine Or.inl ⟨d, i', rfl, a1, oc + 1, a2, a3, ⟨a4, a5, ⟨by omega, fun k hk => absurd hk (Nat.not_lt_zero _)⟩, fun k hk => absurd hk (Nat.not_lt_zero _), ⟨by omega, fun k hk => absurd hk (Nat.not_lt_zero _)⟩⟩, ⟨?_, ?_, ?_, ?_⟩, by omega, fun r hr z1 z2 => ?_, sx_trans h9 (qRO_c a6), sx_trans h10 (qRU_u a7)⟩
    · rw [a6.1 _ _ (by decide)]
      exact h4
    · rw [a6.1 _ _ (by decide)]
      exact h5
    · rw [a6.1 _ _ (by decide)]
      exact h6
    · rw [a6.1 _ _ (by decide)]
      exact h6a
    · rw [a6.1 144 r (decide_eq_false (by omega)), a7.1 222 r (decide_eq_false (by omega))]
      exact h8 r hr z1 z2
  · exact Or.inr ⟨z, rfl, hf⟩
theorem RDF_k (hn : 10000 ≤ n) (h : RDF K P V N c0 u0 oc kc 0 U c u i) (hk : K i = 201) : jw (d_264 n c) (d_400 n (atR u (i + 1))) (fun r q => (∃ d i', r = .inl d ∧ i < i' ∧ ∃ kc' U', RDF K P V N c0 u0 oc kc' 0 U' d q i') ∨ (∃ z, r = .inr z ∧ FLR c u z q)) := by
  obtain ⟨h1, h2, h3, ⟨h4, h5, h6, h6a⟩, h7, h8, h9, h10⟩ := h
  obtain ⟨r, q, y1, y2, y3⟩ := jw_ex (kd_go (U := U) hn h1 hk h2 h3.1 (fun t ht => (h3.2.2.1.2 t ht).1) h7 h4 h5 h6 (fun z => (h8 (1200 + kc) (by omega) (by omega) (by omega)).1) (fun t ht => by
    obtain ⟨-, -, _, _, -, -, -, hg⟩ := h3.2.2.1.2 t ht
    exact hg))
  refine jw_of y1 y2 ?_
  rcases y3 with ⟨nm, hk12, hnm, htk, y3⟩ | ⟨z, rfl, hf⟩
  rotate_left
  · exact Or.inr ⟨z, rfl, hf⟩
  rcases y3 with ⟨d, i', m, rfl, a1, a2, a3, a4, a5, a6, a7, a8, a9, a10, a11, a12, a13, a14, a15⟩ | ⟨z, rfl, hf⟩
  rotate_left
  · exact Or.inr ⟨z, rfl, hf⟩
  have hkA : kA kc + 5 < 120 ∧ 42 ≤ kA kc := by unfold kA; omega
  have D : ∀ A l, qKc kc U A l = false → d.1 A l = c.1 A l ∧ d.2 A l = c.2 A l := fun A l z => ⟨a14.1 _ _ z, a14.2 _ _ z⟩
  have Q : ∀ A l, qKu kc A l = false → q.1 A l = u.1 A l ∧ q.2 A l = u.2 A l := fun A l z => ⟨a15.1 _ _ z, a15.2 _ _ z⟩
  obtain ⟨⟨n1, n2, n3, n4⟩, ⟨k1, k2, k3, k4⟩, ⟨m1, m2, m3, m4⟩, ⟨l1, l2, l3, l4⟩⟩ := h2
  have F := FRN_cg (c' := d) (u' := q) (U' := U + m) h3 (by omega) (fun A l z => D A l (decide_eq_false (by unfold fcR mkR1 at z; unfold kA at *; omega))) (fun A l z => Q A l (decide_eq_false (by
    unfold fuR at z
    rcases z with ⟨z1, z2, z⟩ | z | z | ⟨r, z1, z⟩
    · unfold kuR at z
      omega
    · omega
    · omega
    · unfold ruR at z
      omega)))
  have hfr : fO u oc nm = none ∧ fK u kc nm = none := by
    unfold tkn4 at htk
    have e1 := Bool.or_eq_false_iff.mp htk
    have e2 := Bool.or_eq_false_iff.mp e1.1
    have e3 := Bool.or_eq_false_iff.mp e2.1
    exact ⟨Option.not_isSome_iff_eq_none.mp (by rw [e3.1]; decide), Option.not_isSome_iff_eq_none.mp (by rw [e3.2]; decide)⟩
  obtain ⟨f1, f2, ⟨f3, f4⟩, f5, f6⟩ := F
  have q189 : ∀ l, l < kc → q.2 189 l = u.2 189 l := fun l hl => (Q _ _ (decide_eq_false (by omega))).2
  refine Or.inl ⟨d, i', rfl, by omega, kc + 1, U + m, a2, ⟨⟨n1, ?_, ?_, fun o ho => ?_⟩, ⟨by omega, a3, a4, fun k hk => ?_⟩, ⟨m1, ?_, ?_, fun k hk => absurd hk (Nat.not_lt_zero _)⟩, ⟨l1, ?_, ?_, fun k hk => absurd hk (Nat.not_lt_zero _)⟩⟩, ⟨f1, f2, ⟨by omega, fun k hk => ?_⟩, fun k hk => ?_, ⟨by omega, fun k hk => absurd hk (Nat.not_lt_zero _)⟩⟩, ⟨a9, a10, a11, by rw [(D _ _ (decide_eq_false (by unfold kA; omega))).1]; exact h6a⟩, by omega, fun r hr z1 z2 => ?_, sx_trans h9 (qKc_c hk12 a14), sx_trans h10 (qKu_u a15)⟩
  · rw [(D _ _ (decide_eq_false (by omega))).1]
    exact n2
  · rw [(Q _ _ (decide_eq_false (by omega))).1]
    exact n3
  · rw [(D _ _ (decide_eq_false (by unfold oA kA; omega))).2, (Q _ _ (decide_eq_false (by omega))).2]
    exact n4 o ho
  · by_cases e : k = kc
    · rw [e]
      exact a6.1
    · rw [(D _ _ (decide_eq_false (by unfold kA; omega))).2, q189 k (by omega)]
      exact k4 k (by omega)
  · rw [(D _ _ (decide_eq_false (by omega))).1]
    exact m2
  · rw [(Q _ _ (decide_eq_false (by omega))).1]
    exact m3
  · rw [(D _ _ (decide_eq_false (by omega))).1]
    exact l2
  · rw [(Q _ _ (decide_eq_false (by omega))).1]
    exact l3
  · by_cases e : k = kc
    · rw [e]
      exact ⟨a6, a7, U, m, Nat.le_refl _, a8, a12, a13⟩
    · exact f4 k (by omega)
  · by_cases e : k = kc
    · rw [e, a5]
      refine ⟨?_, ff_new (fun l hl => ?_) (by rw [a5]; exact decide_eq_true rfl), hnm⟩
      · rw [← hfr.1]
        exact ff_congr (fun l hl => by rw [(Q _ _ (decide_eq_false (by omega))).2])
      · rw [q189 l hl]
        exact ff_none hfr.2 l hl
    · obtain ⟨x1, x2, x3⟩ := f5 k (by omega)
      exact ⟨x1, ff_add x2 (fun l hl => rfl), x3⟩
  · have := h8 r hr (by omega) (by omega)
    rw [(D _ _ (decide_eq_false (by omega))).1, (Q _ _ (decide_eq_false (by omega))).1]
    exact this
theorem RDF_m (hn : 10000 ≤ n) (h : RDF K P V N c0 u0 oc kc mc U c u i) (hk : K i = 206) : jw (d_268 n c) (d_402 n (atR u (i + 1))) (fun r q => (∃ d i', r = .inl d ∧ i < i' ∧ ∃ mc' U', RDF K P V N c0 u0 oc kc mc' U' d q i') ∨ (∃ z, r = .inr z ∧ FLR c u z q)) := by
  obtain ⟨h1, h2, h3, ⟨h4, h5, h6, h6a⟩, h7, h8, h9, h10⟩ := h
  have hkc := h3.2.2.1.1
  obtain ⟨r, q, y1, y2, y3⟩ := jw_ex (mkr_go (U := U) hn h1 hk h2 h3.1 (fun t ht => (h3.2.2.1.2 t ht).1) h7 h4 h5 h6 (fun z => (h8 (1212 + mc) (by omega) (by omega) (by omega)).1))
  refine jw_of y1 y2 ?_
  rcases y3 with ⟨nm, hk12, hnm, htk, y3⟩ | ⟨z, rfl, hf⟩
  rotate_left
  · exact Or.inr ⟨z, rfl, hf⟩
  rcases y3 with ⟨d, i', m, t, rfl, a1, a2, a3, a4, a5, a6, a7, a8, a9, a10, a11, a12, a13, a14, a15⟩ | ⟨z, rfl, hf⟩
  rotate_left
  · exact Or.inr ⟨z, rfl, hf⟩
  have D : ∀ A l, qMkc mc U A l = false → d.1 A l = c.1 A l ∧ d.2 A l = c.2 A l := fun A l z => ⟨a14.1 _ _ z, a14.2 _ _ z⟩
  have Q : ∀ A l, qMku mc A l = false → q.1 A l = u.1 A l ∧ q.2 A l = u.2 A l := fun A l z => ⟨a15.1 _ _ z, a15.2 _ _ z⟩
  have hB := FRN_B h3
  obtain ⟨⟨n1, n2, n3, n4⟩, ⟨k1, k2, k3, k4⟩, ⟨m1, m2, m3, m4⟩, ⟨l1, l2, l3, l4⟩⟩ := h2
  have F := FRN_cg (c' := d) (u' := q) (U' := U + m) h3 (by omega) (fun A l z => D A l (decide_eq_false (by unfold fcR mkR1 at z; unfold kA at *; omega))) (fun A l z => Q A l (decide_eq_false (by
    unfold fuR at z
    rcases z with ⟨z1, z2, z⟩ | z | z | ⟨r, z1, z⟩
    · omega
    · omega
    · omega
    · unfold ruR at z
      omega)))
  obtain ⟨f1, f2, f3, f5, ⟨f6, f7⟩⟩ := F
  refine Or.inl ⟨d, i', rfl, by omega, mc + 1, U + m, a2, ⟨⟨n1, ?_, ?_, fun o ho => ?_⟩, ⟨k1, ?_, ?_, fun k hk => ?_⟩, ⟨by omega, a3, a4, fun k hk => ?_⟩, ⟨l1, ?_, ?_, fun k hk => absurd hk (Nat.not_lt_zero _)⟩⟩, ⟨f1, f2, f3, f5, ⟨by omega, fun k hk => ?_⟩⟩, ⟨a11, a12, a13, by rw [(D _ _ (decide_eq_false (by omega))).1]; exact h6a⟩, by omega, fun r hr z1 z2 => ?_, sx_trans h9 (qMkc_c a14), sx_trans h10 (qMku_u a15)⟩
  · rw [(D _ _ (decide_eq_false (by omega))).1]
    exact n2
  · rw [(Q _ _ (decide_eq_false (by omega))).1]
    exact n3
  · rw [(D _ _ (decide_eq_false (by unfold oA; omega))).2, (Q _ _ (decide_eq_false (by omega))).2]
    exact n4 o ho
  · rw [(D _ _ (decide_eq_false (by omega))).1]
    exact k2
  · rw [(Q _ _ (decide_eq_false (by omega))).1]
    exact k3
  · rw [(D _ _ (decide_eq_false (by unfold kA; omega))).2, (Q _ _ (decide_eq_false (by omega))).2]
    exact k4 k hk
  · by_cases e : k = mc
    · rw [e, a5, a6]
    · rw [(D _ _ (decide_eq_false (by omega))).2, (Q _ _ (decide_eq_false (by omega))).2]
      exact m4 k (by omega)
  · rw [(D _ _ (decide_eq_false (by omega))).1]
    exact l2
  · rw [(Q _ _ (decide_eq_false (by omega))).1]
    exact l3
  · by_cases e : k = mc
    · rw [e]
      exact ⟨by rw [a5, a6], t, U, m, a7, a8, a9, Nat.le_refl _, a10⟩
    · exact f7 k (by omega)
  · have := h8 r hr (by omega) (by omega)
    rw [(D _ _ (decide_eq_false (by omega))).1, (Q _ _ (decide_eq_false (by omega))).1]
    exact this
end FRT
