/-! WHAT IS READ is a program: KINDS, MAKERS -/
section KKSS
variable {n i j N k d r U m w oc kc kk mc cc t x y p : Nat} {c u : cS} {nm v : Int64} {b : Bool}
theorem FRN_oc (h : FRN c u oc kc mc U) : oc = ocn u := by
  unfold ocn
  rw [h.1.2.2.1, ix_n (by have := h.1.1; omega)]
theorem FRN_kc (h : FRN c u oc kc mc U) (hk : u.1 174 24 = nI kc) : kc = kcn u := by
  unfold kcn
  rw [hk, ix_n (by have := h.2.2.1.1; omega)]
theorem FRN_N (h : FRN c u oc kc mc U) (hk : u.1 174 24 = nI kc) : NMS u := by
  have ho := FRN_oc h
  have hkc := FRN_kc h hk
  refine ⟨fun o ho' => ?_, fun k hk' => ?_⟩
  · obtain ⟨h1, h2⟩ := h.2.1 o (by omega)
    rw [oOf_f ho] at h1
    exact ⟨h1, h2⟩
  · obtain ⟨h1, h2, h3⟩ := h.2.2.2.1 k (by omega)
    rw [oOf_f ho] at h1
    rw [kOf_f hkc] at h2
    exact ⟨h1, h2, h3⟩
theorem kOf_no (hN : NMS u) (h : kOf u nm = some d) : oOf u nm = none ∧ d < kcn u ∧ u.2 189 d = nm := by
  obtain ⟨h1, h2, -⟩ := ff_some h
  have h2 := of_decide_eq_true h2
  refine ⟨?_, h1, h2⟩
  rw [← h2]
  exact (hN.2 d h1).1
/-- a code and its NAME -/
theorem ky_of (hN : NMS u) (h : tOf u nm = some t) (h12 : kcn u ≤ 12) : isKy u t ∧ kyN u t = nm := by
  unfold tOf at h
  cases e : oOf u nm with
  | some o =>
    rw [e] at h
    cases h
    obtain ⟨h1, h2, -⟩ := ff_some e
    refine ⟨Or.inr ⟨by omega, by omega⟩, ?_⟩
    unfold kyN
    rw [if_neg (by omega), show 100 + o - 100 = o by omega]
    exact of_decide_eq_true h2
  | none =>
    rw [e] at h
    obtain ⟨h1, h2, h3⟩ := kOf_no hN h
    refine ⟨Or.inl h2, ?_⟩
    unfold kyN
    rw [if_pos (by omega)]
    exact h3
theorem ky_to (hN : NMS u) (h : isKy u t) (h12 : kcn u ≤ 12) : tOf u (kyN u t) = some t := by
  unfold kyN tOf
  rcases h with z | ⟨z1, z2⟩
  · rw [if_pos (by omega), (hN.2 t z).1]
    exact (hN.2 t z).2.1
  · rw [if_neg (by omega), (hN.1 (t - 100) (by omega)).1]
    exact congrArg some (by omega)
theorem kyS_inj {s : Nat} (h1 : t < 12 ∨ (100 ≤ t ∧ t < 104)) (h2 : s < 12 ∨ (100 ≤ s ∧ s < 104)) : kyS t = kyS s ↔ t = s := by
  unfold kyS
  constructor
  · intro h
    split at h <;> split at h <;> omega
  · intro h
    rw [h]
theorem gvt_k : ∀ {K k : Nat}, k < K → gvt u v K k = gv1 u v (gvt u v k) k
  | 0, _, h => absurd h (Nat.not_lt_zero _)
  | K + 1, k, h => by
    show (if k = K then gv1 u v (gvt u v K) K else gvt u v K k) = _
    by_cases e : k = K
    · rw [if_pos e, e]
    · rw [if_neg e]
      exact gvt_k (by omega)
theorem gvt_gv (hd : d < k) (hk : k ≤ kcn u) : gvt u v k d = gv u v d := by
  unfold gv
  rw [gvt_k hd, gvt_k (show d < kcn u by omega)]
/-- what MARKS of a KIND GIVE -/
theorem RG_of (hF : FRN c u oc kc mc U) (hk : u.1 174 24 = nI kc) : ∀ k, k < kc → ∀ t, isKy u t → RG c u k t := by
  have ho := FRN_oc hF
  have hkc := FRN_kc hF hk
  have hN := FRN_N hF hk
  have h12 : kcn u ≤ 12 := by
    rw [← hkc]
    exact hF.2.2.1.1
  have ho4 : ocn u ≤ 4 := by
    rw [← ho]
    exact hF.1.1
  have hB := FRN_B hF
  intro k
  induction k using Nat.strongRecOn with
  | ind k ih =>
    intro hkk t ht
    obtain ⟨-, -, U', m', g1, g2, g3, g4⟩ := hF.2.2.1.2 k hkk
    have hz := RWR_mz g2
    have hcd : ∀ i, i < m' → tOf u (u.2 223 ((1200 + k) * 20 + i)) = some (cdX c U' i) ∧ ((cdX c U' i < k ∧ kOf u (u.2 223 ((1200 + k) * 20 + i)) = some (cdX c U' i)) ∨ (100 ≤ cdX c U' i ∧ kOf u (u.2 223 ((1200 + k) * 20 + i)) = none)) := fun i hi => by
      obtain ⟨t', b', a1, a2, -⟩ := g2.2.2.2.2.2.2.2 i hi
      obtain ⟨t1, t2⟩ := tOf_t ho hkc (by omega) a2
      have e : cdX c U' i = t' := by
        unfold cdX
        rw [a1, ix_n (by rcases t2 with ⟨z, -⟩ | ⟨o, z, z2, -⟩ <;> omega)]
      rw [e]
      refine ⟨t1, ?_⟩
      rcases t2 with ⟨z1, z2, z3⟩ | ⟨o, z1, z2, z3⟩
      · exact Or.inl ⟨z1, z3⟩
      · refine Or.inr ⟨by omega, ?_⟩
        cases e2 : kOf u (u.2 223 ((1200 + k) * 20 + i)) with
        | none => rfl
        | some d =>
          rw [(kOf_no hN e2).1] at z3
          cases z3
    have htb : t < 12 ∨ (100 ≤ t ∧ t < 104) := by
      rcases ht with z | z
      · exact Or.inl (by omega)
      · exact Or.inr (by omega)
    have hcb : ∀ i, i < m' → cdX c U' i < 12 ∨ (100 ≤ cdX c U' i ∧ cdX c U' i < 104) := fun i hi => by
      rcases (ky_of hN (hcd i hi).1 h12).1 with z | z
      · exact Or.inl (by omega)
      · exact Or.inr (by omega)
    have hnm : ∀ i, i < m' → (decide (u.2 223 ((1200 + k) * 20 + i) = kyN u t) = decide (kyS (cdX c U' i) = kyS t)) := fun i hi => by
      refine decide_eq_decide.mpr ⟨fun z => ?_, fun z => ?_⟩
      · have h1 := (hcd i hi).1
        rw [z, ky_to hN ht h12] at h1
        cases h1
        rfl
      · have h1 := (kyS_inj (hcb i hi) htb).mp z
        rw [← h1]
        exact (ky_of hN (hcd i hi).1 h12).2.symm
    have hs : kyS t < 16 := by
      unfold kyS
      split <;> omega
    have hc := g3 (kyS t) hs
    have hgv : gv u (kyN u t) k = gv1 u (kyN u t) (gvt u (kyN u t) k) k := gvt_k (show k < kcn u by omega)
    have ef : ff (fun i => decide (u.2 223 ((1200 + k) * 20 + i) = kyN u t)) (mz u (1200 + k)) = ff (fun i => decide (kyS (cdX c U' i) = kyS t)) m' := by
      rw [hz]
      exact ff_congr hnm
    unfold RG
    rw [hgv]
    unfold gv1
    rw [ef]
    unfold gvB gvA at hc
    cases e1 : ff (fun i => decide (kyS (cdX c U' i) = kyS t)) m' with
    | some i =>
      rw [e1] at hc
      dsimp only at hc ⊢
      obtain ⟨i1, -, -⟩ := ff_some e1
      have hU := g2.2.1
      rw [if_pos (show (0 : Int32) ≤ nI (U' + i) from nI_le (a := 0) (by omega) (by omega))] at hc
      refine ⟨k, i, by omega, by omega, rfl, ?_⟩
      rw [RWR_mi g2 i1]
      exact hc
    | none =>
      rw [e1] at hc
      dsimp only at hc ⊢
      rw [if_neg (by decide)] at hc
      -- KINDS that give
      have hRGd : ∀ i, i < m' → cdX c U' i < k → (((gv u (kyN u t) (cdX c U' i)) = none ∧ c.1 (kA (cdX c U' i) + 5) (kyS t) = nM) ∨ ∃ y d l, gv u (kyN u t) (cdX c U' i) = some y ∧ d < kcn u ∧ l < mz u (1200 + d) ∧ y = (1200 + d) * 20 + l ∧ c.1 (kA (cdX c U' i) + 5) (kyS t) = nI (mi c (1200 + d) l) ∧ mi c (1200 + d) l < 4096) := fun i hi hlt => by
        have h1 := ih (cdX c U' i) hlt (by omega) t ht
        unfold RG at h1
        cases e : gv u (kyN u t) (cdX c U' i) with
        | none =>
          rw [e] at h1
          exact Or.inl ⟨rfl, h1⟩
        | some y =>
          rw [e] at h1
          obtain ⟨d, l, a1, a2, a3, a4⟩ := h1
          obtain ⟨-, -, Ud, md, -, f2, -⟩ := hF.2.2.1.2 d (by omega)
          have hzd := RWR_mz f2
          have hUd := f2.2.1
          exact Or.inr ⟨y, d, l, rfl, a1, a2, a3, a4, by rw [RWR_mi f2 (by omega)]; omega⟩
      have hpb : ∀ i, i < m' → ((kOf u (u.2 223 ((1200 + k) * 20 + i))).bind (gvt u (kyN u t) k)).isSome = (decide (cdX c U' i < 100) && decide (0 ≤ c.1 (kA (cdX c U' i) + 5) (kyS t))) := fun i hi => by
        rcases (hcd i hi).2 with ⟨z1, z2⟩ | ⟨z1, z2⟩
        · rw [z2, decide_eq_true (show cdX c U' i < 100 by omega), Bool.true_and, Option.bind_some, gvt_gv z1 (by omega)]
          rcases hRGd i hi z1 with ⟨y1, y2⟩ | ⟨y, d, l, y1, -, -, -, y5, y6⟩
          · rw [y1, y2, decide_eq_false (by decide)]
            rfl
          · rw [y1, y5, decide_eq_true (show (0 : Int32) ≤ nI (mi c (1200 + d) l) from nI_le (a := 0) (by omega) (by omega))]
            rfl
        · rw [z2, decide_eq_false (show ¬ cdX c U' i < 100 by omega), Bool.false_and]
          rfl
      have ef2 : ff (fun i => ((kOf u (u.2 223 ((1200 + k) * 20 + i))).bind (gvt u (kyN u t) k)).isSome) (mz u (1200 + k)) = ff (fun j => decide (cdX c U' j < 100) && decide (0 ≤ c.1 (kA (cdX c U' j) + 5) (kyS t))) m' := by
        rw [hz]
        exact ff_congr hpb
      rw [ef2]
      cases e2 : ff (fun j => decide (cdX c U' j < 100) && decide (0 ≤ c.1 (kA (cdX c U' j) + 5) (kyS t))) m' with
      | none =>
        rw [e2] at hc
        exact hc
      | some i =>
        rw [e2] at hc
        dsimp only at hc
        obtain ⟨i1, i2, -⟩ := ff_some e2
        rw [Option.bind_some]
        rcases (hcd i i1).2 with ⟨z1, z2⟩ | ⟨z1, z2⟩
        · rw [z2, Option.bind_some, gvt_gv z1 (by omega)]
          rcases hRGd i i1 z1 with ⟨y1, y2⟩ | ⟨y, d, l, y1, y2, y3, y4, y5, y6⟩
          · have := (Bool.and_eq_true_iff.mp i2).2
            rw [y2] at this
            cases this
          · rw [y1]
            exact ⟨d, l, y2, y3, y4, by rw [hc]; exact y5⟩
        · have := of_decide_eq_true (Bool.and_eq_true_iff.mp i2).1
          omega
theorem KKS_of (hF : FRN c u oc kc mc U) (hk : u.1 174 24 = nI kc) (hc : c.1 7 4 = nI kc) : KKS c u := by
  have ho := FRN_oc hF
  have hkc := FRN_kc hF hk
  have hN := FRN_N hF hk
  have h12 := hF.2.2.1.1
  have hmd : ∀ k, k < kc → MDS u k := fun k hk => (hF.2.2.1.2 k hk).2.1
  refine ⟨by omega, by rw [← hkc]; exact hc, by rw [← hkc]; exact hk, fun k hk' => (hF.2.2.1.2 k (by omega)).1, hN, fun k hk' => ?_, fun k i d hk' hi hd => ?_, fun k t hk' ht => RG_of hF hk k (by omega) t ht⟩
  · obtain ⟨-, -, U', m', g1, g2, -⟩ := hF.2.2.1.2 k (by omega)
    exact RQ_of ho hkc (by omega) (Or.inl rfl) (by omega) (fun j hj => hmd j (by omega)) g2
  · obtain ⟨-, -, U', m', g1, g2, -⟩ := hF.2.2.1.2 k (by omega)
    rw [RWR_mz g2] at hi
    obtain ⟨t', b', a1, a2, -⟩ := g2.2.2.2.2.2.2.2 i hi
    obtain ⟨-, t2⟩ := tOf_t ho hkc (show k ≤ kc by omega) a2
    rcases t2 with ⟨z1, -, z3⟩ | ⟨o, -, -, z3⟩
    · rw [hd] at z3
      cases z3
      exact z1
    · rw [(kOf_no hN hd).1] at z3
      cases z3
theorem MMS_of (hF : FRN c u oc kc mc U) (hk : u.1 174 24 = nI kc) (h7 : c.1 7 7 = nI mc) (h34 : u.1 174 34 = nI mc) : MMS c u := by
  have ho := FRN_oc hF
  have hkc := FRN_kc hF hk
  have h6 := hF.2.2.2.2.1
  have e : mcn u = mc := by
    unfold mcn
    rw [h34, ix_n (by omega)]
  unfold MMS
  rw [e]
  refine ⟨h6, h7, h34, fun k hk' => ?_⟩
  obtain ⟨g1, t, U', m', g2, g3, g4, g5, g6⟩ := hF.2.2.2.2.2 k hk'
  exact ⟨g1, ⟨t, by omega, g3, g4⟩, RQ_of ho hkc (Nat.le_refl _) (Or.inr rfl) hF.2.2.1.1 (fun j hj => (hF.2.2.1.2 j hj).2.1) g6⟩
end KKSS
