/-! FLOW: STATES come to ACTS in the reference -/
def rxv (u : cS) (b s : Nat) : Nat := if s < 16 then ix (u.1 238 (16 * b + s)) else 0
def RX (u : cS) (M i : Nat) : Option (Nat → Nat) := if u.1 239 (40 * M + i) = nI 0 then none else some (rxv u (40 * M + i))
/-- the reference's STATES are what they should be -/
def RV (m : cS) (M : Nat) (u : cS) : Prop := ∀ i, i < acn m M → nb (u.1 239 (40 * M + i)) ∧ (u.1 239 (40 * M + i) = nI 1 → ∀ s, s < 16 → u.1 238 (16 * (40 * M + i) + s) = nI (rxv u (40 * M + i) s) ∧ rxv u (40 * M + i) s < 1000)
def qCm (b a i : Nat) : Bool := decide ((a = 238 ∧ 16 * b ≤ i ∧ i < 16 * b + 16) ∨ (a = 239 ∧ i = b) ∨ (a = 174 ∧ i = 90))
theorem RX_same {u w : cS} {M k b : Nat} (hw : sx (qCm b) u w) (hk : 40 * M + k ≠ b) : RX w M k = RX u M k := by
  have h1 : w.1 239 (40 * M + k) = u.1 239 (40 * M + k) := hw.1 _ _ (decide_eq_false (by omega))
  have h2 : rxv w (40 * M + k) = rxv u (40 * M + k) := by
    funext s
    unfold rxv
    by_cases hs : s < 16
    · rw [if_pos hs, if_pos hs, hw.1 _ _ (decide_eq_false (by omega))]
    · rw [if_neg hs, if_neg hs]
  unfold RX
  rw [h1, h2]
theorem RV_same {m u w : cS} {M k b : Nat} (hw : sx (qCm b) u w) (hk : 40 * M + k ≠ b) (h : nb (u.1 239 (40 * M + k)) ∧ (u.1 239 (40 * M + k) = nI 1 → ∀ s, s < 16 → u.1 238 (16 * (40 * M + k) + s) = nI (rxv u (40 * M + k) s) ∧ rxv u (40 * M + k) s < 1000)) : nb (w.1 239 (40 * M + k)) ∧ (w.1 239 (40 * M + k) = nI 1 → ∀ s, s < 16 → w.1 238 (16 * (40 * M + k) + s) = nI (rxv w (40 * M + k) s) ∧ rxv w (40 * M + k) s < 1000) := by
  have h1 : w.1 239 (40 * M + k) = u.1 239 (40 * M + k) := hw.1 _ _ (decide_eq_false (by omega))
  have h2 : ∀ s, s < 16 → w.1 238 (16 * (40 * M + k) + s) = u.1 238 (16 * (40 * M + k) + s) := fun s hs => hw.1 _ _ (decide_eq_false (by omega))
  have h3 : ∀ s, s < 16 → rxv w (40 * M + k) s = rxv u (40 * M + k) s := by
    intro s hs
    unfold rxv
    rw [if_pos hs, if_pos hs, h2 s hs]
  rw [h1]
  refine ⟨h.1, fun e s hs => ?_⟩
  rw [h2 s hs, h3 s hs]
  exact h.2 e s hs
def sumV (m : cS) (o : Nat) (f : Nat → Nat) : Nat → Nat
  | 0 => 0
  | k + 1 => sumV m o f k + hgt m o (eln m o) (f k)
def potR (m : cS) (o k : Nat) : Option (Nat → Nat) → Nat
  | none => 200
  | some f => 192 - sumV m o f k
section SV
variable {m : cS} {o : Nat}
theorem sumV_le {f : Nat → Nat} (h12 : eln m o ≤ 12) : ∀ k, sumV m o f k ≤ 12 * k
  | 0 => Nat.le_refl _
  | k + 1 => by
    have := sumV_le (f := f) h12 k
    have h2 : hgt m o (eln m o) (f k) ≤ eln m o := cntN_le _
    unfold sumV
    omega
theorem sumV_mono {f g : Nat → Nat} (hL : LA o (eln m o) m) : ∀ k, okF (eln m o) k f → okF (eln m o) k g → lfF m o k f g → sumV m o f k ≤ sumV m o g k ∧ ((∃ j, j < k ∧ f j ≠ g j) → sumV m o f k < sumV m o g k)
  | 0, _, _, _ => ⟨Nat.le_refl _, fun ⟨j, hj, _⟩ => by omega⟩
  | k + 1, hf, hg, h => by
    obtain ⟨h1, h2⟩ := sumV_mono hL k (fun s hs => hf s (by omega)) (fun s hs => hg s (by omega)) (fun s hs => h s (by omega))
    have h3 := hgt_le hL (hf k (by omega)) (hg k (by omega)) (h k (by omega))
    unfold sumV
    refine ⟨by omega, fun ⟨j, hj, hne⟩ => ?_⟩
    by_cases e : j = k
    · subst e
      have := hgt_lt hL (hf j (by omega)) (hg j (by omega)) (h j (by omega)) hne
      omega
    · have := h2 ⟨j, by omega, hne⟩
      omega
end SV
/-- one STATE has come: behind w for u -/
def CMS (m : cS) (o M j : Nat) (f : Nat → Nat) (u w : cS) : Prop := sx (qCm (40 * M + j)) u w ∧ RV m M w ∧ ∃ g, RX w M j = some g ∧ okF (eln m o) (8 + dpn m (40 * M + j)) g ∧ lfF m o (8 + dpn m (40 * M + j)) f g ∧ (∀ h, RX u M j = some h → lfF m o (8 + dpn m (40 * M + j)) h g) ∧
  (∀ y, okF (eln m o) (8 + dpn m (40 * M + j)) y → lfF m o (8 + dpn m (40 * M + j)) f y → (∀ h, RX u M j = some h → lfF m o (8 + dpn m (40 * M + j)) h y) → lfF m o (8 + dpn m (40 * M + j)) g y) ∧
  ((w.1 174 90 = u.1 174 90 ∧ RX w M j = RX u M j) ∨ (w.1 174 90 = nI 1 ∧ potR m o (8 + dpn m (40 * M + j)) (RX w M j) < potR m o (8 + dpn m (40 * M + j)) (RX u M j)))
theorem nP_qCm {b : Nat} : nP (qCm b) := by
  refine ⟨fun a i h => ?_, fun i h => ?_, fun i h => ?_, fun a i h1 h2 h3 => ?_, fun a i h1 h2 h3 => ?_⟩
  · have := PA_of h
    exact decide_eq_false (by omega)
  · have := PF_of h
    exact decide_eq_false (by omega)
  · exact decide_eq_false (by omega)
  · exact decide_eq_false (by omega)
  · exact decide_eq_false (by omega)
theorem e455 {n M j o : Nat} {f K : Nat → Nat} {c m u : cS} (hn : 1000 ≤ n) (hA : AG m u) (hX : FX c m o M K) (hj : j < acn m M) (hr : RCH m M j) (hN : NOW u f) (hf : okF (eln m o) (8 + dpn m (40 * M + j)) f) (hf2 : ∀ s, s < 16 → f s < 1000) (hV : RV m M u) (hG : GOO m o M (RX u M)) : wp (d_455 n (nI (40 * M + j)) (nI o) u) (CMS m o M j f u) := by
  have hM96 := isMt_lt hX.2.1 hX.2.2.2.1
  have hn40 := (FX_L hX).2.2.1
  have hL := (FX_L hX).1
  have ho4 := hX.1.1
  have ho := hX.2.2.2.2.1
  have h12 := hL.1
  obtain ⟨r1, r2, r3, r4⟩ := id hr
  obtain ⟨v1, v2⟩ := hV j hj
  have hVk : ∀ (w : cS), sx (qCm (40 * M + j)) u w → ∀ k, k < acn m M → k ≠ j → nb (w.1 239 (40 * M + k)) ∧ (w.1 239 (40 * M + k) = nI 1 → ∀ s, s < 16 → w.1 238 (16 * (40 * M + k) + s) = nI (rxv w (40 * M + k) s) ∧ rxv w (40 * M + k) s < 1000) := fun w hw k hk hne => RV_same (m := m) hw (by omega) (hV k hk)
  have hGj := hG j
  generalize hb : 40 * M + j = b at *
  generalize hd : dpn m b = d at *
  have hb38 : b < 3840 := by omega
  have done : ∀ (w : cS) (g : Nat → Nat), sx (qCm b) u w → w.1 239 b = nI 1 → (∀ s, s < 16 → w.1 238 (16 * b + s) = nI (g s) ∧ g s < 1000) → RV m M w ∧ RX w M j = some (fun s => if s < 16 then g s else 0) := by
    intro w g hw h39 hv
    have hrx : ∀ s, rxv w b s = if s < 16 then g s else 0 := by
      intro s
      unfold rxv
      by_cases hs : s < 16
      · have := (hv s hs).2
        rw [if_pos hs, if_pos hs, (hv s hs).1, ix_n (by omega)]
      · rw [if_neg hs, if_neg hs]
    refine ⟨fun k hk => ?_, ?_⟩
    · by_cases e : k = j
      · subst e
        rw [hb]
        refine ⟨by rw [h39]; exact Or.inr rfl, fun _ s hs => ?_⟩
        rw [hrx, if_pos hs]
        exact hv s hs
      · exact hVk w hw k hk e
    · unfold RX
      rw [hb, h39, if_neg (by decide)]
      exact congrArg some (funext hrx)
  unfold d_455
  rcases v1 with h0 | h1
  · have h0 : u.1 239 b = nI 0 := h0
    have hnone : RX u M j = none := by
      unfold RX
      rw [hb, if_pos h0]
    (try dsimp only); repeat (first | with_reducible refine wpl ?_ | with_reducible refine wpj ?_ | with_reducible refine wpSl ?_ | with_reducible refine wpSr ?_ | with_reducible refine wpS ?_ | ((with_reducible refine wpt ?_ ?_); · simp (disch := first | omega | decide) only [↓neg1, nlit, rI, rL, rI2, rL1, nI_add, pk_mul, sbT, dvT, nmd, ixT, ↓ibT, ltT, ltF, leT, leF, eqT, eqF, nM_ltT, nM_ltF, nM_leT, nM_leF, nM_eqF, nM_eqF', nbT0, nbT1, oI_s, oI_n, natF, natT, nltT, nltF, nleT, nleF, ↓reduceIte, lgc, not_true_eq_false, not_false_eq_true, or_false, false_or, or_true, true_or, and_true, true_and, and_false, false_and, ne_eq, eq_self, or_self, and_self, h0]; done) | ((with_reducible refine wpf ?_ ?_); · simp (disch := first | omega | decide) only [↓neg1, nlit, rI, rL, rI2, rL1, nI_add, pk_mul, sbT, dvT, nmd, ixT, ↓ibT, ltT, ltF, leT, leF, eqT, eqF, nM_ltT, nM_ltF, nM_leT, nM_leF, nM_eqF, nM_eqF', nbT0, nbT1, oI_s, oI_n, natF, natT, nltT, nltF, nleT, nleF, ↓reduceIte, lgc, not_true_eq_false, not_false_eq_true, or_false, false_or, or_true, true_or, and_true, true_and, and_false, false_and, ne_eq, eq_self, or_self, and_self, h0]; done))
    rw [ix_n (by omega)]
    have s0 : sx (qCm b) u (pI (pI u 239 b (vp_nar .boolean 1)) 174 90 1) := sx_pI (sx_pI sx_rfl (decide_eq_true (by omega))) (decide_eq_true (by omega))
    refine wpc (K' := fun w : cS => sx (qCm b) u w ∧ w.1 239 b = nI 1 ∧ w.1 174 90 = nI 1 ∧ ∀ s, s < 16 → w.1 238 (16 * b + s) = nI (f s)) (whl_cnt (fun k (st : Int32 × cS) => st.1 = nI k ∧ sx (qCm b) u st.2 ∧ st.2.1 239 b = nI 1 ∧ st.2.1 174 90 = nI 1 ∧ ∀ s, s < k → st.2.1 238 (16 * b + s) = nI (f s)) 16 ?_ ?_ (by omega) ⟨rfl, s0, ?_, ?_, fun s hs => by omega⟩) ?_
    · rintro k ⟨a, w⟩ hk ⟨g1, g2, g3, g4, g5⟩
      dsimp only at g1 g2 g3 g4 g5
      subst g1
      have h240 : w.1 240 k = nI (f k) := (g2.1 240 k (decide_eq_false (by omega))).trans (hN k hk)
      (try dsimp only); repeat (first | with_reducible refine wpl ?_ | with_reducible refine wpj ?_ | with_reducible refine wpSl ?_ | with_reducible refine wpSr ?_ | with_reducible refine wpS ?_ | ((with_reducible refine wpt ?_ ?_); · simp (disch := first | omega | decide) only [↓neg1, nlit, rI, rL, rI2, rL1, nI_add, pk_mul, sbT, dvT, nmd, ixT, ↓ibT, ltT, ltF, leT, leF, eqT, eqF, nM_ltT, nM_ltF, nM_leT, nM_leF, nM_eqF, nM_eqF', nbT0, nbT1, oI_s, oI_n, natF, natT, nltT, nltF, nleT, nleF, ↓reduceIte, lgc, not_true_eq_false, not_false_eq_true, or_false, false_or, or_true, true_or, and_true, true_and, and_false, false_and, ne_eq, eq_self, or_self, and_self]; done) | ((with_reducible refine wpf ?_ ?_); · simp (disch := first | omega | decide) only [↓neg1, nlit, rI, rL, rI2, rL1, nI_add, pk_mul, sbT, dvT, nmd, ixT, ↓ibT, ltT, ltF, leT, leF, eqT, eqF, nM_ltT, nM_ltF, nM_leT, nM_leF, nM_eqF, nM_eqF', nbT0, nbT1, oI_s, oI_n, natF, natT, nltT, nltF, nleT, nleF, ↓reduceIte, lgc, not_true_eq_false, not_false_eq_true, or_false, false_or, or_true, true_or, and_true, true_and, and_false, false_and, ne_eq, eq_self, or_self, and_self]; done))
      rw [show (16 : Int32) * nI b + nI k = nI (16 * b + k) by rw [show (16 : Int32) = nI 16 from rfl, pk_mul, nI_add], ix_n (by omega), ix_n (by omega), h240]
      refine ⟨nI_1 _, sx_pI g2 (decide_eq_true (by omega)), ?_, ?_, fun s hs => ?_⟩
      · show (pI w 238 _ _).1 239 b = _
        rw [rI, if_neg (by omega)]
        exact g3
      · show (pI w 238 _ _).1 174 90 = _
        rw [rI, if_neg (by omega)]
        exact g4
      · show (pI w 238 _ _).1 238 _ = _
        rw [rI]
        by_cases e : s = k
        · rw [if_pos ⟨rfl, by omega⟩, e]
        · rw [if_neg (by omega)]
          exact g5 s (by omega)
    · rintro ⟨a, w⟩ ⟨g1, g2, g3, g4, g5⟩
      dsimp only at g1 g2 g3 g4 g5
      subst g1
      (try dsimp only); repeat (first | with_reducible refine wpl ?_ | with_reducible refine wpj ?_ | with_reducible refine wpSl ?_ | with_reducible refine wpSr ?_ | with_reducible refine wpS ?_ | ((with_reducible refine wpt ?_ ?_); · simp (disch := first | omega | decide) only [↓neg1, nlit, rI, rL, rI2, rL1, nI_add, pk_mul, sbT, dvT, nmd, ixT, ↓ibT, ltT, ltF, leT, leF, eqT, eqF, nM_ltT, nM_ltF, nM_leT, nM_leF, nM_eqF, nM_eqF', nbT0, nbT1, oI_s, oI_n, natF, natT, nltT, nltF, nleT, nleF, ↓reduceIte, lgc, not_true_eq_false, not_false_eq_true, or_false, false_or, or_true, true_or, and_true, true_and, and_false, false_and, ne_eq, eq_self, or_self, and_self]; done) | ((with_reducible refine wpf ?_ ?_); · simp (disch := first | omega | decide) only [↓neg1, nlit, rI, rL, rI2, rL1, nI_add, pk_mul, sbT, dvT, nmd, ixT, ↓ibT, ltT, ltF, leT, leF, eqT, eqF, nM_ltT, nM_ltF, nM_leT, nM_leF, nM_eqF, nM_eqF', nbT0, nbT1, oI_s, oI_n, natF, natT, nltT, nltF, nleT, nleF, ↓reduceIte, lgc, not_true_eq_false, not_false_eq_true, or_false, false_or, or_true, true_or, and_true, true_and, and_false, false_and, ne_eq, eq_self, or_self, and_self]; done))
      exact ⟨g2, g3, g4, g5⟩
    · show (pI (pI u 239 b (vp_nar .boolean 1)) 174 90 1).1 239 b = _
      rw [rI, if_neg (by omega), rI, if_pos ⟨rfl, rfl⟩]
      decide
    · show (pI (pI u 239 b (vp_nar .boolean 1)) 174 90 1).1 174 90 = _
      rw [rI, if_pos ⟨rfl, rfl⟩]
      rfl
    · rintro w ⟨g2, g3, g4, g5⟩
      obtain ⟨d1, d2⟩ := done w f g2 g3 (fun s hs => ⟨g5 s hs, hf2 s hs⟩)
      show CMS m o M j f u w
      unfold CMS
      rw [hb, hd, d2, hnone]
      have hff : ∀ s, s < 8 + d → (if s < 16 then f s else 0) = f s := fun s hs => if_pos (by omega)
      refine ⟨g2, d1, _, rfl, fun s hs => ?_, fun s hs => ?_, (fun h hh => by cases hh), fun y _ hy _ s hs => ?_, Or.inr ⟨g4, ?_⟩⟩
      · show (if s < 16 then f s else 0) < _
        rw [hff s hs]
        exact hf s hs
      · show mB m o _ (if s < 16 then f s else 0)
        rw [hff s hs]
        exact LA_refl hL (hf s hs)
      · show mB m o (if s < 16 then f s else 0) _
        rw [hff s hs]
        exact hy s hs
      · show 192 - _ < 200
        omega
  · have h1 : u.1 239 b = nI 1 := h1
    have hsome : RX u M j = some (rxv u b) := by
      unfold RX
      rw [hb, h1, if_neg (by decide)]
    have hv := v2 h1
    have hok := (hGj (rxv u b) hj hsome).2
    (try dsimp only); repeat (first | with_reducible refine wpl ?_ | with_reducible refine wpj ?_ | with_reducible refine wpSl ?_ | with_reducible refine wpSr ?_ | with_reducible refine wpS ?_ | ((with_reducible refine wpt ?_ ?_); · simp (disch := first | omega | decide) only [↓neg1, nlit, rI, rL, rI2, rL1, nI_add, pk_mul, sbT, dvT, nmd, ixT, ↓ibT, ltT, ltF, leT, leF, eqT, eqF, nM_ltT, nM_ltF, nM_leT, nM_leF, nM_eqF, nM_eqF', nbT0, nbT1, oI_s, oI_n, natF, natT, nltT, nltF, nleT, nleF, ↓reduceIte, lgc, not_true_eq_false, not_false_eq_true, or_false, false_or, or_true, true_or, and_true, true_and, and_false, false_and, ne_eq, eq_self, or_self, and_self, h1]; done) | ((with_reducible refine wpf ?_ ?_); · simp (disch := first | omega | decide) only [↓neg1, nlit, rI, rL, rI2, rL1, nI_add, pk_mul, sbT, dvT, nmd, ixT, ↓ibT, ltT, ltF, leT, leF, eqT, eqF, nM_ltT, nM_ltF, nM_leT, nM_leF, nM_eqF, nM_eqF', nbT0, nbT1, oI_s, oI_n, natF, natT, nltT, nltF, nleT, nleF, ↓reduceIte, lgc, not_true_eq_false, not_false_eq_true, or_false, false_or, or_true, true_or, and_true, true_and, and_false, false_and, ne_eq, eq_self, or_self, and_self, h1]; done))
    refine wpc (K' := fun w : cS => sx (qCm b) u w ∧ w.1 239 b = nI 1 ∧ (∀ s, s < 16 → w.1 238 (16 * b + s) = nI (if s < 8 + d then Jo m o (rxv u b s) (f s) else rxv u b s)) ∧ ((w.1 174 90 = u.1 174 90 ∧ ∀ s, s < 8 + d → Jo m o (rxv u b s) (f s) = rxv u b s) ∨ (w.1 174 90 = nI 1 ∧ ∃ s, s < 8 + d ∧ Jo m o (rxv u b s) (f s) ≠ rxv u b s))) (whl_cnt (fun k (st : Int32 × cS) => st.1 = nI k ∧ sx (qCm b) u st.2 ∧ st.2.1 239 b = nI 1 ∧ (∀ s, s < 16 → st.2.1 238 (16 * b + s) = nI (if s < k then Jo m o (rxv u b s) (f s) else rxv u b s)) ∧ ((st.2.1 174 90 = u.1 174 90 ∧ ∀ s, s < k → Jo m o (rxv u b s) (f s) = rxv u b s) ∨ (st.2.1 174 90 = nI 1 ∧ ∃ s, s < k ∧ Jo m o (rxv u b s) (f s) ≠ rxv u b s))) (8 + d) ?_ ?_ (by omega) ⟨rfl, sx_rfl, h1, fun s hs => by rw [if_neg (by omega)]; exact (hv s hs).1, Or.inl ⟨rfl, fun s hs => by omega⟩⟩) ?_
    · rintro k ⟨a, w⟩ hk ⟨g1, g2, g3, g4, g5⟩
      dsimp only at g1 g2 g3 g4 g5
      subst g1
      have hAw := AG_sx hA g2 nP_qCm
      have h240 : w.1 240 k = nI (f k) := (g2.1 240 k (decide_eq_false (by omega))).trans (hN k (by omega))
      have hwk : w.1 238 (16 * b + k) = nI (rxv u b k) := by
        have := g4 k (by omega)
        rwa [if_neg (by omega)] at this
      have u1 := hok k hk
      have u2 := hf k hk
      obtain ⟨j1, j2, -⟩ := LA_J hL u1 u2
      have h230 : w.1 230 b = nI d := (hAw.1 230 b rfl).trans r1
      (try dsimp only); repeat (first | with_reducible refine wpl ?_ | with_reducible refine wpj ?_ | with_reducible refine wpSl ?_ | with_reducible refine wpSr ?_ | with_reducible refine wpS ?_ | ((with_reducible refine wpt ?_ ?_); · simp (disch := first | omega | decide) only [↓neg1, nlit, rI, rL, rI2, rL1, nI_add, pk_mul, sbT, dvT, nmd, ixT, ↓ibT, ltT, ltF, leT, leF, eqT, eqF, nM_ltT, nM_ltF, nM_leT, nM_leF, nM_eqF, nM_eqF', nbT0, nbT1, oI_s, oI_n, natF, natT, nltT, nltF, nleT, nleF, ↓reduceIte, lgc, not_true_eq_false, not_false_eq_true, or_false, false_or, or_true, true_or, and_true, true_and, and_false, false_and, ne_eq, eq_self, or_self, and_self, h230]; done) | ((with_reducible refine wpf ?_ ?_); · simp (disch := first | omega | decide) only [↓neg1, nlit, rI, rL, rI2, rL1, nI_add, pk_mul, sbT, dvT, nmd, ixT, ↓ibT, ltT, ltF, leT, leF, eqT, eqF, nM_ltT, nM_ltF, nM_leT, nM_leF, nM_eqF, nM_eqF', nbT0, nbT1, oI_s, oI_n, natF, natT, nltT, nltF, nleT, nleF, ↓reduceIte, lgc, not_true_eq_false, not_false_eq_true, or_false, false_or, or_true, true_or, and_true, true_and, and_false, false_and, ne_eq, eq_self, or_self, and_self, h230]; done))
      rw [show (16 : Int32) * nI b + nI k = nI (16 * b + k) by rw [show (16 : Int32) = nI 16 from rfl, pk_mul, nI_add], ix_n (by omega), ix_n (by omega), h240, hwk]
      refine wpe (e390 (by omega) (by omega) (by omega)) ?_
      rw [show mJ w o (rxv u b k) (f k) = nI (Jo m o (rxv u b k) (f k)) from (hAw.1 185 _ rfl).trans j2]
      refine wpt (by simp (disch := first | omega | decide) only [↓neg1, nlit, rI, rL, rI2, rL1, nI_add, pk_mul, sbT, dvT, nmd, ixT, ↓ibT, ltT, ltF, leT, leF, eqT, eqF, nM_ltT, nM_ltF, nM_leT, nM_leF, nM_eqF, nM_eqF', nbT0, nbT1, oI_s, oI_n, natF, natT, nltT, nltF, nleT, nleF, ↓reduceIte, lgc, not_true_eq_false, not_false_eq_true, or_false, false_or, or_true, true_or, and_true, true_and, and_false, false_and, ne_eq, eq_self, or_self, and_self]) (wpj ?_)
      have hst : ∀ (x : cS), sx (qCm b) u x → x.1 239 b = nI 1 → (∀ s, s < 16 → x.1 238 (16 * b + s) = nI (if s < k then Jo m o (rxv u b s) (f s) else rxv u b s)) → sx (qCm b) u (pI x 238 (16 * b + k) (nI (Jo m o (rxv u b k) (f k)))) ∧ (pI x 238 (16 * b + k) (nI (Jo m o (rxv u b k) (f k)))).1 239 b = nI 1 ∧ ∀ s, s < 16 → (pI x 238 (16 * b + k) (nI (Jo m o (rxv u b k) (f k)))).1 238 (16 * b + s) = nI (if s < k + 1 then Jo m o (rxv u b s) (f s) else rxv u b s) := by
        intro x x1 x2 x3
        refine ⟨sx_pI x1 (decide_eq_true (by omega)), ?_, fun s hs => ?_⟩
        · rw [rI, if_neg (by omega)]
          exact x2
        · rw [rI]
          by_cases e : s = k
          · rw [if_pos ⟨rfl, by omega⟩, if_pos (by omega), e]
          · rw [if_neg (by omega), x3 s hs]
            by_cases e2 : s < k
            · rw [if_pos e2, if_pos (by omega)]
            · rw [if_neg e2, if_neg (by omega)]
      by_cases hch : Jo m o (rxv u b k) (f k) = rxv u b k
      · refine wpt (by rw [hch]) ?_
        refine wpt (by simp (disch := first | omega | decide) only [↓neg1, nlit, rI, rL, rI2, rL1, nI_add, pk_mul, sbT, dvT, nmd, ixT, ↓ibT, ltT, ltF, leT, leF, eqT, eqF, nM_ltT, nM_ltF, nM_leT, nM_leF, nM_eqF, nM_eqF', nbT0, nbT1, oI_s, oI_n, natF, natT, nltT, nltF, nleT, nleF, ↓reduceIte, lgc, not_true_eq_false, not_false_eq_true, or_false, false_or, or_true, true_or, and_true, true_and, and_false, false_and, ne_eq, eq_self, or_self, and_self]) (wpl (wpl ?_))
        obtain ⟨y1, y2, y3⟩ := hst w g2 g3 g4
        refine ⟨nI_1 _, y1, y2, y3, ?_⟩
        show ((pI w 238 _ _).1 174 90 = _ ∧ _) ∨ ((pI w 238 _ _).1 174 90 = _ ∧ _)
        rw [rI, if_neg (by omega)]
        rcases g5 with ⟨g5, g6⟩ | ⟨g5, s, g6, g7⟩
        · refine Or.inl ⟨g5, fun s hs => ?_⟩
          by_cases e : s = k
          · rw [e]
            exact hch
          · exact g6 s (by omega)
        · exact Or.inr ⟨g5, s, by omega, g7⟩
      · refine wpf (fun z => hch ((nI_eq (by omega) (by omega)).mp z)) (wpl ?_)
        have x1 : sx (qCm b) u (pI w 174 90 1) := sx_pI g2 (decide_eq_true (by omega))
        obtain ⟨y1, y2, y3⟩ := hst (pI w 174 90 1) x1 (by rw [rI, if_neg (by omega)]; exact g3) (fun s hs => by rw [rI, if_neg (by omega)]; exact g4 s hs)
        refine wpt (by simp (disch := first | omega | decide) only [↓neg1, nlit, rI, rL, rI2, rL1, nI_add, pk_mul, sbT, dvT, nmd, ixT, ↓ibT, ltT, ltF, leT, leF, eqT, eqF, nM_ltT, nM_ltF, nM_leT, nM_leF, nM_eqF, nM_eqF', nbT0, nbT1, oI_s, oI_n, natF, natT, nltT, nltF, nleT, nleF, ↓reduceIte, lgc, not_true_eq_false, not_false_eq_true, or_false, false_or, or_true, true_or, and_true, true_and, and_false, false_and, ne_eq, eq_self, or_self, and_self]) (wpl (wpl ⟨nI_1 _, y1, y2, y3, Or.inr ⟨?_, k, by omega, hch⟩⟩))
        show (pI (pI w 174 90 1) 238 _ _).1 174 90 = _
        rw [rI, if_neg (by omega), rI, if_pos ⟨rfl, rfl⟩]
        rfl
    · rintro ⟨a, w⟩ ⟨g1, g2, g3, g4, g5⟩
      dsimp only at g1 g2 g3 g4 g5
      subst g1
      have hAw := AG_sx hA g2 nP_qCm
      have h230 : w.1 230 b = nI d := (hAw.1 230 b rfl).trans r1
      (try dsimp only); repeat (first | with_reducible refine wpl ?_ | with_reducible refine wpj ?_ | with_reducible refine wpSl ?_ | with_reducible refine wpSr ?_ | with_reducible refine wpS ?_ | ((with_reducible refine wpt ?_ ?_); · simp (disch := first | omega | decide) only [↓neg1, nlit, rI, rL, rI2, rL1, nI_add, pk_mul, sbT, dvT, nmd, ixT, ↓ibT, ltT, ltF, leT, leF, eqT, eqF, nM_ltT, nM_ltF, nM_leT, nM_leF, nM_eqF, nM_eqF', nbT0, nbT1, oI_s, oI_n, natF, natT, nltT, nltF, nleT, nleF, ↓reduceIte, lgc, not_true_eq_false, not_false_eq_true, or_false, false_or, or_true, true_or, and_true, true_and, and_false, false_and, ne_eq, eq_self, or_self, and_self, h230]; done) | ((with_reducible refine wpf ?_ ?_); · simp (disch := first | omega | decide) only [↓neg1, nlit, rI, rL, rI2, rL1, nI_add, pk_mul, sbT, dvT, nmd, ixT, ↓ibT, ltT, ltF, leT, leF, eqT, eqF, nM_ltT, nM_ltF, nM_leT, nM_leF, nM_eqF, nM_eqF', nbT0, nbT1, oI_s, oI_n, natF, natT, nltT, nltF, nleT, nleF, ↓reduceIte, lgc, not_true_eq_false, not_false_eq_true, or_false, false_or, or_true, true_or, and_true, true_and, and_false, false_and, ne_eq, eq_self, or_self, and_self, h230]; done))
      exact ⟨g2, g3, g4, g5⟩
    · rintro w ⟨g2, g3, g4, g5⟩
      have hJ : ∀ s, s < 8 + d → Jo m o (rxv u b s) (f s) < eln m o := fun s hs => (LA_J hL (hok s hs) (hf s hs)).1
      obtain ⟨d1, d2⟩ := done w (fun s => if s < 8 + d then Jo m o (rxv u b s) (f s) else rxv u b s) g2 g3 (fun s hs => ⟨g4 s hs, by
        show (if s < 8 + d then _ else _) < 1000
        by_cases e : s < 8 + d
        · rw [if_pos e]
          have := hJ s e
          omega
        · rw [if_neg e]
          exact (hv s hs).2⟩)
      have hgv : ∀ s, s < 8 + d → (if s < 16 then (if s < 8 + d then Jo m o (rxv u b s) (f s) else rxv u b s) else 0) = Jo m o (rxv u b s) (f s) := fun s hs => by rw [if_pos (by omega), if_pos hs]
      have hun : (∀ s, s < 8 + d → Jo m o (rxv u b s) (f s) = rxv u b s) → (fun s => if s < 16 then (if s < 8 + d then Jo m o (rxv u b s) (f s) else rxv u b s) else 0) = rxv u b := by
        intro hh
        funext s
        by_cases e : s < 16
        · rw [if_pos e]
          by_cases e2 : s < 8 + d
          · rw [if_pos e2, hh s e2]
          · rw [if_neg e2]
        · rw [if_neg e]
          unfold rxv
          rw [if_neg e]
      have hgok : okF (eln m o) (8 + d) (fun s => if s < 16 then (if s < 8 + d then Jo m o (rxv u b s) (f s) else rxv u b s) else 0) := fun s hs => by
        show (if s < 16 then _ else 0) < _
        rw [hgv s hs]
        exact hJ s hs
      have hle : lfF m o (8 + d) (rxv u b) (fun s => if s < 16 then (if s < 8 + d then Jo m o (rxv u b s) (f s) else rxv u b s) else 0) := fun s hs => by
        show mB m o _ (if s < 16 then _ else 0)
        rw [hgv s hs]
        exact (LA_J hL (hok s hs) (hf s hs)).2.2.1
      show CMS m o M j f u w
      unfold CMS
      rw [hb, hd, d2, hsome]
      refine ⟨g2, d1, _, rfl, hgok, fun s hs => ?_, fun h hh => ?_, fun y hy hfy hhy s hs => ?_, ?_⟩
      · show mB m o _ (if s < 16 then _ else 0)
        rw [hgv s hs]
        exact (LA_J hL (hok s hs) (hf s hs)).2.2.2.1
      · cases hh
        exact hle
      · show mB m o (if s < 16 then _ else 0) _
        rw [hgv s hs]
        exact (LA_J hL (hok s hs) (hf s hs)).2.2.2.2 _ (hy s hs) (hhy _ rfl s hs) (hfy s hs)
      · rcases g5 with ⟨g5, g6⟩ | ⟨g5, s, g6, g7⟩
        · exact Or.inl ⟨g5, congrArg some (hun g6)⟩
        · refine Or.inr ⟨g5, ?_⟩
          have hs1 := (sumV_mono hL (8 + d) hok hgok hle).2 ⟨s, g6, fun z => g7 (by
            have z2 : rxv u b s = if s < 16 then _ else 0 := z
            rw [hgv s g6] at z2
            exact z2.symm)⟩
          have hs2 := sumV_le (m := m) (o := o) (f := fun s => if s < 16 then (if s < 8 + d then Jo m o (rxv u b s) (f s) else rxv u b s) else 0) h12.2 (8 + d)
          show 192 - _ < 192 - _
          omega
