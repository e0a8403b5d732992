/-! READING: what is read of ORDERS, KINDS and MAKERS -/
section FRNS
variable {n i j N k m U U' r oc kc mc cc t s : Nat} {c d u q c' u' : cS} {K P : Nat → Nat} {V : Nat → Int64} {nm : Int64} {T T' : Nat → Nat}
theorem GVC_cg (h : GVC c k T U m) (hT : ∀ j, j < m → T' j = T j) (hb : ∀ j, j < m → T j < k ∨ 100 ≤ T j) (hc : ∀ t s, t ≤ k → d.1 (kA t + 5) s = c.1 (kA t + 5) s) : GVC d k T' U m := by
  intro s hs
  rw [hc k s (Nat.le_refl _), h s hs]
  have e1 : gvA T' U m s = gvA T U m s := by
    unfold gvA
    rw [ff_congr (q := fun j => decide (kyS (T j) = s)) (fun l hl => by rw [hT l hl])]
  rw [e1]
  unfold gvB
  have e2 : ff (fun j => decide (T' j < 100) && decide (0 ≤ d.1 (kA (T' j) + 5) s)) m = ff (fun j => decide (T j < 100) && decide (0 ≤ c.1 (kA (T j) + 5) s)) m := ff_congr (fun l hl => by
    rw [hT l hl]
    rcases hb l hl with z | z
    · rw [hc (T l) s (by omega)]
    · rw [decide_eq_false (show ¬ T l < 100 by omega), Bool.false_and, Bool.false_and])
  rw [e2]
  by_cases eb : 0 ≤ gvA T U m s
  · rw [if_pos eb, if_pos eb]
  · rw [if_neg eb, if_neg eb]
    cases e : ff (fun j => decide (T j < 100) && decide (0 ≤ c.1 (kA (T j) + 5) s)) m with
    | some l =>
      dsimp only
      have h1 := ff_some e
      have h2 := of_decide_eq_true (Bool.and_eq_true_iff.mp h1.2.1).1
      rw [hT l h1.1]
      rcases hb l h1.1 with z | z
      · rw [hc (T l) s (by omega)]
      · omega
    | none => rfl
theorem MDS_cg (h : MDS u k) (hk : kn u k ≤ 4) (h0 : u'.1 190 k = u.1 190 k) (h1 : ∀ l, l < 4 → u'.2 191 (4 * k + l) = u.2 191 (4 * k + l)) : MDS u' k := by
  have ekn : kn u' k = kn u k := by
    unfold kn
    rw [h0]
  intro j hj
  rw [ekn] at hj
  have := h j hj
  unfold jOf at this ⊢
  rw [ekn, h1 j (by omega), ← this]
  exact ff_congr (fun l hl => by rw [h1 l (by omega)])
/-- the codes of a row that is read -/
theorem RWR_cd {w : Nat} (h : RWR c u oc kc r U m w) (hB : ENB u oc kc) (hj : j < m) : c.1 135 (U + j) = nI (cdX c U j) ∧ (cdX c U j < kc ∨ (100 ≤ cdX c U j ∧ cdX c U j < 104)) := by
  obtain ⟨t, b, g1, g2, -⟩ := h.2.2.2.2.2.2.2 j hj
  have ht := tgt_t g2
  have b1 := hB.1
  have b2 := hB.2.1
  have : cdX c U j = t := by
    unfold cdX
    rw [g1, ix_n (by rcases ht with ⟨z, -⟩ | ⟨o, z, z2, -⟩ <;> omega)]
  rw [this]
  exact ⟨g1, by rcases ht with ⟨z, -⟩ | ⟨o, z, z2, -⟩ <;> omega⟩
def KRD (c u : cS) (oc k U : Nat) : Prop := RK c u k ∧ MDS u k ∧ ∃ U' m', U' + m' ≤ U ∧ RWR c u oc k (1200 + k) U' m' 4 ∧ GVC c k (cdX c U') U' m' ∧ GVE c k
def MRD (c u : cS) (oc kc k U : Nat) : Prop := c.2 10 k = u.2 198 k ∧ ∃ t U' m', t < kc ∧ c.1 11 k = nI t ∧ u.1 199 k = nI t ∧ U' + m' ≤ U ∧ RWR c u oc kc (1212 + k) U' m' 5
/-- KINDS have names of their own -/
def KNM (u : cS) (oc kc : Nat) : Prop := ∀ k, k < kc → fO u oc (u.2 189 k) = none ∧ fK u kc (u.2 189 k) = some k ∧ u.2 189 k ≠ 0
def FRN (c u : cS) (oc kc mc U : Nat) : Prop := PO oc c u ∧ ONM u oc ∧ (kc ≤ 12 ∧ ∀ k, k < kc → KRD c u oc k U) ∧ KNM u oc kc ∧ (mc ≤ 6 ∧ ∀ k, k < mc → MRD c u oc kc k U)
theorem FRN_B (h : FRN c u oc kc mc U) : ENB u oc kc := by
  refine ⟨h.1.1, h.2.2.1.1, fun t ht => (h.2.2.1.2 t ht).1.2.1, fun o ho => ?_⟩
  obtain ⟨E, hr⟩ := h.1.2.2.2 o ho
  have hE := hr.1.1.2
  unfold eln
  rw [hr.1.2.1, ix_n (by omega)]
  exact hE
theorem ENB_le (h : ENB u oc kc) (hk : k ≤ kc) : ENB u oc k := ⟨h.1, by have := h.2.1; omega, fun t ht => h.2.2.1 t (by omega), h.2.2.2⟩
theorem FRN_V (h : FRN c u oc kc mc U) (hN : NMQ c u oc kc) : ENV c u oc kc mc cc := ⟨hN, h.1, fun k hk => (h.2.2.1.2 k hk).1⟩
/-- the marks that are read -/
def mkR1 (U A l : Nat) : Prop := (134 ≤ A ∧ A ≤ 138 ∧ l < U) ∨ (139 ≤ A ∧ A ≤ 141 ∧ l < U * 4)
theorem KRD_cg (h : KRD c u oc k U) (hB : ENB u oc k) (hk : k < 12) (hU : U ≤ U') (hc : ∀ A l, (42 ≤ A ∧ A ≤ kA k + 5) ∨ ((142 ≤ A ∧ A ≤ 144) ∧ l = 1200 + k) ∨ mkR1 U A l → c'.1 A l = c.1 A l ∧ c'.2 A l = c.2 A l) (hu : ∀ A l, (181 ≤ A ∧ A ≤ 197 ∧ kuR (k + 1) A l) ∨ ruR (1200 + k) A l → u'.1 A l = u.1 A l ∧ u'.2 A l = u.2 A l) : KRD c' u' oc k U' := by
  obtain ⟨h1, h2, V', m', h3, h4, h5, h6⟩ := h
  have hk5 : kA k + 5 < 120 ∧ 42 ≤ kA k := by unfold kA; omega
  have hku : ∀ A l, 181 ≤ A → A ≤ 197 → kuR (k + 1) A l → u'.1 A l = u.1 A l ∧ u'.2 A l = u.2 A l := fun A l z1 z2 z => hu A l (Or.inl ⟨z1, z2, z⟩)
  refine ⟨RK_c2 h1 (fun A l z => hc A l (by omega)) (fun A l z => hku A l (by omega) (by omega) (by unfold kuR; omega)), MDS_cg h2 h1.2.1 (hku _ _ (by omega) (by omega) (by unfold kuR; omega)).1 (fun l hl => (hku _ _ (by omega) (by omega) (by unfold kuR; omega)).2), V', m', by omega, ?_, ?_, fun s hs => ?_⟩
  · exact RWR_k h4 hB (fun A l z => hc A l (by unfold rcR at z; unfold mkR1; omega)) (fun A l z => hu A l (Or.inr z)) (fun A l z1 z2 z => hku A l z1 z2 (by unfold kuR at *; omega))
  · refine GVC_cg h5 (fun j hj => ?_) (fun j hj => ?_) (fun t s ht => (hc _ _ (by unfold kA at *; omega)).1)
    · unfold cdX
      rw [(hc _ _ (by unfold mkR1; omega)).1]
    · have := (RWR_cd h4 hB hj).2
      omega
  · rw [(hc _ _ (by omega)).1]
    exact h6 s hs
theorem MRD_cg (h : MRD c u oc kc k U) (hB : ENB u oc kc) (hU : U ≤ U') (hc : ∀ A l, ((A = 10 ∨ A = 11) ∧ l = k) ∨ ((142 ≤ A ∧ A ≤ 144) ∧ l = 1212 + k) ∨ mkR1 U A l → c'.1 A l = c.1 A l ∧ c'.2 A l = c.2 A l) (hu : ∀ A l, ((A = 198 ∨ A = 199) ∧ l = k) ∨ (181 ≤ A ∧ A ≤ 197 ∧ kuR kc A l) ∨ ruR (1212 + k) A l → u'.1 A l = u.1 A l ∧ u'.2 A l = u.2 A l) : MRD c' u' oc kc k U' := by
  obtain ⟨h1, t, V', m', h2, h3, h4, h5, h6⟩ := h
  refine ⟨by rw [(hc _ _ (by omega)).2, (hu _ _ (by omega)).2]; exact h1, t, V', m', h2, by rw [(hc _ _ (by omega)).1]; exact h3, by rw [(hu _ _ (by omega)).1]; exact h4, by omega, ?_⟩
  exact RWR_k h6 hB (fun A l z => hc A l (by unfold rcR at z; unfold mkR1; omega)) (fun A l z => hu A l (Or.inr (Or.inr z))) (fun A l z1 z2 z => hu A l (Or.inr (Or.inl ⟨z1, z2, z⟩)))
theorem KNM_cg (h : KNM u oc kc) (hu : ∀ A l, (A = 181) ∨ (A = 189 ∧ l < kc) → u'.2 A l = u.2 A l) : KNM u' oc kc := by
  intro k hk
  obtain ⟨h1, h2, h3⟩ := h k hk
  rw [hu 189 k (by omega)]
  refine ⟨?_, ?_, h3⟩
  · rw [← h1]
    exact ff_congr (fun l hl => by rw [hu 181 l (by omega)])
  · rw [← h2]
    exact ff_congr (fun l hl => by rw [hu 189 l (by omega)])
theorem ONM_cg (h : ONM u oc) (hu : ∀ l, u'.2 181 l = u.2 181 l) : ONM u' oc := by
  intro o ho
  obtain ⟨h1, h2⟩ := h o ho
  rw [hu o]
  refine ⟨?_, h2⟩
  rw [← h1]
  exact ff_congr (fun l hl => by rw [hu l])
/-- the cells of the front -/
def fcR (kc mc U A l : Nat) : Prop := (A = 7 ∧ l = 2) ∨ ((A = 10 ∨ A = 11) ∧ l < mc) ∨ (18 ≤ A ∧ A < kA kc) ∨ ((142 ≤ A ∧ A ≤ 144) ∧ ((1200 ≤ l ∧ l < 1200 + kc) ∨ (1212 ≤ l ∧ l < 1212 + mc))) ∨ mkR1 U A l
def fuR (kc mc A l : Nat) : Prop := (181 ≤ A ∧ A ≤ 197 ∧ kuR kc A l) ∨ (A = 174 ∧ l = 15) ∨ ((A = 198 ∨ A = 199) ∧ l < mc) ∨ ∃ r, ((1200 ≤ r ∧ r < 1200 + kc) ∨ (1212 ≤ r ∧ r < 1212 + mc)) ∧ ruR r A l
theorem FRN_cg (h : FRN c u oc kc mc U) (hU : U ≤ U') (hc : ∀ A l, fcR kc mc U A l → c'.1 A l = c.1 A l ∧ c'.2 A l = c.2 A l) (hu : ∀ A l, fuR kc mc A l → u'.1 A l = u.1 A l ∧ u'.2 A l = u.2 A l) : FRN c' u' oc kc mc U' := by
  have hB := FRN_B h
  obtain ⟨h1, h2, ⟨h3, h4⟩, h5, ⟨h6, h7⟩⟩ := h
  have hu1 : ∀ A l, 181 ≤ A → A ≤ 197 → kuR kc A l → u'.1 A l = u.1 A l ∧ u'.2 A l = u.2 A l := fun A l z1 z2 z => hu A l (Or.inl ⟨z1, z2, z⟩)
  unfold fcR at hc
  refine ⟨PO_cg h1 (fun A l z => hc A l (by unfold kA; omega)) (fun A l z => ?_), ONM_cg h2 (fun l => (hu1 _ _ (by omega) (by omega) (by unfold kuR; omega)).2), ⟨h3, fun k hk => KRD_cg (h4 k hk) (ENB_le hB (by omega)) (by omega) hU (fun A l z => hc A l ?_) (fun A l z => ?_)⟩, KNM_cg h5 (fun A l z => (hu1 _ _ (by omega) (by omega) (by unfold kuR; omega)).2), ⟨h6, fun k hk => MRD_cg (h7 k hk) hB hU (fun A l z => hc A l ?_) (fun A l z => ?_)⟩⟩
  · rcases z with z | z
    · exact hu1 A l (by omega) (by omega) (by unfold kuR; omega)
    · exact hu A l (Or.inr (Or.inl (by omega)))
  · rcases z with z | z | z
    · unfold kA at *
      omega
    · omega
    · exact Or.inr (Or.inr (Or.inr (Or.inr z)))
  · rcases z with ⟨z1, z2, z⟩ | z
    · exact hu1 A l z1 z2 (by unfold kuR at *; omega)
    · exact hu A l (Or.inr (Or.inr (Or.inr ⟨1200 + k, by omega, z⟩)))
  · rcases z with z | z | z
    · omega
    · omega
    · exact Or.inr (Or.inr (Or.inr (Or.inr z)))
  · rcases z with z | z | z
    · exact hu A l (Or.inr (Or.inr (Or.inl (by omega))))
    · exact hu A l (Or.inl z)
    · exact hu A l (Or.inr (Or.inr (Or.inr ⟨1212 + k, by omega, z⟩)))
end FRNS
