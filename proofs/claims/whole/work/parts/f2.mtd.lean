/-! READING CLASSES: what is read stays -/
section MTDS
variable {n i j N k f q M p0 a0 t m L na U U' tot oc kc mc cc : Nat} {c d u v c' u' : cS} {K P : Nat → Nat} {V : Nat → Int64}
/-- the cells of METHOD M and of its ACTS -/
def mcR (M p0 a0 na U A l : Nat) : Prop := ((115 ≤ A ∧ A ≤ 120 ∧ A ≠ 118) ∧ l = M) ∨ (A = 118 ∧ M * 8 ≤ l ∧ l < M * 8 + 8) ∨ (121 ≤ A ∧ A ≤ 132 ∧ a0 ≤ l ∧ l < a0 + na) ∨ ((142 ≤ A ∧ A ≤ 144) ∧ ((p0 ≤ l ∧ l ≤ p0 + 4) ∨ (1218 + a0 ≤ l ∧ l < 1218 + a0 + na))) ∨ mkR1 U A l
def muR (M p0 A l : Nat) : Prop := ((A = 206 ∨ A = 207 ∨ A = 208 ∨ A = 210) ∧ l = M) ∨ (A = 209 ∧ 8 * M ≤ l ∧ l < 8 * M + 8) ∨ (211 ≤ A ∧ A ≤ 219 ∧ 40 * M ≤ l ∧ l < 40 * M + 40) ∨ ((A = 220 ∨ A = 221) ∧ 160 * M ≤ l ∧ l < 160 * M + 160) ∨ (A = 222 ∧ p0 ≤ l ∧ l ≤ p0 + 4) ∨ (223 ≤ A ∧ A ≤ 225 ∧ p0 * 20 ≤ l ∧ l < (p0 + 5) * 20) ∨ (226 ≤ A ∧ A ≤ 228 ∧ p0 * 80 ≤ l ∧ l < (p0 + 5) * 80)
set_option maxHeartbeats 8000000 in
theorem MTD_cg (h : MTD K P V N c u M p0 a0 t L na oc kc U) (hB : ENB u oc kc) (hU : U ≤ U') (hc : ∀ A l, mcR M p0 a0 na U A l → c'.1 A l = c.1 A l ∧ c'.2 A l = c.2 A l) (hu : ∀ A l, muR M p0 A l ∨ (181 ≤ A ∧ A ≤ 197 ∧ kuR kc A l) ∨ (A = 174 ∧ l = 15) → u'.1 A l = u.1 A l ∧ u'.2 A l = u.2 A l) : MTD K P V N c' u' M p0 a0 t L na oc kc U' := by
  obtain ⟨h1, ⟨h2, h3, h4⟩, ⟨h5, h6, h7, h8, h9⟩, ⟨h10, h11, h12, h13, h14, h15⟩, h16, ⟨U1, m1, h17, h18⟩, h19, h20⟩ := h
  unfold mcR mkR1 at hc
  have hu1 : ∀ A l, muR M p0 A l → u'.1 A l = u.1 A l ∧ u'.2 A l = u.2 A l := fun A l z => hu A l (Or.inl z)
  have hu2 : ∀ A l, 181 ≤ A → A ≤ 197 → kuR kc A l → u'.1 A l = u.1 A l ∧ u'.2 A l = u.2 A l := fun A l z1 z2 z => hu A l (Or.inr (Or.inl ⟨z1, z2, z⟩))
  unfold muR at hu1
  have row : ∀ {r U1 m1 w1 : Nat}, p0 ≤ r → r ≤ p0 + 4 → U1 + m1 ≤ U → RWR c u oc kc r U1 m1 w1 → RWR c' u' oc kc r U1 m1 w1 := fun {r U1 m1 w1} r1 r2 r3 hr => RWR_k hr hB (fun A l z => hc A l (by unfold rcR at z; clear hc hu hu1 hu2 h16 h19 h20; rcases z with z | z | z <;> (first | exact Or.inl (by omega) | exact Or.inr (Or.inl (by omega)) | exact Or.inr (Or.inr (Or.inl (by omega))) | exact Or.inr (Or.inr (Or.inr (Or.inl (by omega)))) | exact Or.inr (Or.inr (Or.inr (Or.inr (Or.inl (by omega))))) | exact Or.inr (Or.inr (Or.inr (Or.inr (Or.inr (by omega)))))))) (fun A l z => hu1 A l (by unfold ruR at z; clear hc hu hu1 hu2 h16 h19 h20; rcases z with z | z | z <;> (first | exact Or.inl (by omega) | exact Or.inr (Or.inl (by omega)) | exact Or.inr (Or.inr (Or.inl (by omega))) | exact Or.inr (Or.inr (Or.inr (Or.inl (by omega)))) | exact Or.inr (Or.inr (Or.inr (Or.inr (Or.inl (by omega))))) | exact Or.inr (Or.inr (Or.inr (Or.inr (Or.inr (Or.inl (by omega)))))) | exact Or.inr (Or.inr (Or.inr (Or.inr (Or.inr (Or.inr (by omega))))))))) hu2
  refine ⟨?_, ⟨h2, ?_, ?_⟩, ⟨h5, h6, ?_, ?_, fun l hl => ?_⟩, ⟨h10, h11, ?_, ?_, ?_, h15⟩, fun l hl => ?_, ⟨U1, m1, by omega, row (by omega) (by omega) h17 h18⟩, fun l hl => ?_, fun l hl => ?_⟩
  · rw [(hc _ _ (by omega)).2, (hu1 _ _ (by omega)).2]
    exact h1
  · rw [(hc _ _ (by omega)).1]
    exact h3
  · rw [(hu1 _ _ (by omega)).1]
    exact h4
  · rw [(hc _ _ (by omega)).1]
    exact h7
  · rw [(hu1 _ _ (by omega)).1]
    exact h8
  · rw [(hc _ _ (by omega)).2, (hu1 _ _ (by omega)).2]
    exact h9 l hl
  · rw [(hc _ _ (by omega)).1]
    exact h12
  · rw [(hu1 _ _ (by omega)).1]
    exact h13
  · rw [(hc _ _ (by omega)).1]
    exact h14
  · refine ACX_cg (h16 l hl) (Nat.le_refl _) hU (fun A l' z => hc A l' (by unfold acR mkR1 at z; clear hc hu hu1 hu2 row h16 h19 h20; rcases z with z | z | z | z <;> (first | exact Or.inl (by omega) | exact Or.inr (Or.inl (by omega)) | exact Or.inr (Or.inr (Or.inl (by omega))) | exact Or.inr (Or.inr (Or.inr (Or.inl (by omega)))) | exact Or.inr (Or.inr (Or.inr (Or.inr (Or.inl (by omega))))) | exact Or.inr (Or.inr (Or.inr (Or.inr (Or.inr (by omega)))))))) (fun A l' z => ?_)
    unfold auR at z
    rcases z with z | z | z | z
    · exact hu1 A l' (Or.inr (Or.inr (Or.inl (by omega))))
    · exact hu1 A l' (Or.inr (Or.inr (Or.inr (Or.inl (by omega)))))
    · exact hu2 A l' (by omega) (by omega) (by unfold kuR; omega)
    · exact hu A l' (Or.inr (Or.inr z))
  · obtain ⟨U2, m2, x1, x2⟩ := h19 l hl
    exact ⟨U2, m2, by omega, row (by omega) (by omega) x1 x2⟩
  · rw [(hu1 212 _ (by omega)).2]
    rcases h20 l hl with z | z
    · exact Or.inl z
    · refine Or.inr ?_
      rw [← z]
      exact ff_congr (fun l' hl' => by rw [(hu1 212 _ (by omega)).2])
/-- a CLASS by itself -/
def CRD (c u : cS) (k : Nat) : Prop := c.2 12 k = u.2 200 k ∧ u.2 200 k ≠ 0 ∧ c.1 13 k = u.1 201 k ∧ (u.1 201 k = nM ∨ ∃ d, d < k ∧ u.1 201 k = nI d)
/-- its FIELDS -/
def CFD (c u : cS) (oc kc k U : Nat) : Prop := fM u k ≤ 8 ∧ c.1 14 k = nI (fM u k) ∧ u.1 202 k = nI (fM u k) ∧ (∀ j, j < fM u k → c.2 15 (k * 8 + j) = u.2 204 (8 * k + j) ∧ c.1 16 (k * 8 + j) = u.1 205 (8 * k + j) ∧ ∃ U' m', U' + m' ≤ U ∧ RWR c u oc kc (100 * k + 1 + j) U' m' 1) ∧ ∃ U' m', U' + m' ≤ U ∧ RWR c u oc kc (100 * k) U' m' 0
/-- its METHODS -/
def CMD (K P : Nat → Nat) (V : Nat → Int64) (N : Nat) (c u : cS) (oc kc k U tot : Nat) : Prop := qM u k ≤ 8 ∧ c.1 17 k = nI (qM u k) ∧ u.1 203 k = nI (qM u k) ∧ ∀ j, j < qM u k → ∃ t L na a0, a0 + na ≤ tot ∧ MTD K P V N c u (8 * k + j) (100 * k + 20 + 10 * j) a0 t L na oc kc U
set_option maxHeartbeats 8000000 in
theorem CFD_cg (h : CFD c u oc kc k U) (hB : ENB u oc kc) (hU : U ≤ U') (hc : ∀ A l, (A = 14 ∧ l = k) ∨ ((A = 15 ∨ A = 16) ∧ k * 8 ≤ l ∧ l < k * 8 + 8) ∨ ((142 ≤ A ∧ A ≤ 144) ∧ 100 * k ≤ l ∧ l < 100 * k + 20) ∨ mkR1 U A l → c'.1 A l = c.1 A l ∧ c'.2 A l = c.2 A l) (hu : ∀ A l, (A = 202 ∧ l = k) ∨ ((A = 204 ∨ A = 205) ∧ 8 * k ≤ l ∧ l < 8 * k + 8) ∨ (∃ r, 100 * k ≤ r ∧ r < 100 * k + 20 ∧ ruR r A l) ∨ (181 ≤ A ∧ A ≤ 197 ∧ kuR kc A l) → u'.1 A l = u.1 A l ∧ u'.2 A l = u.2 A l) : CFD c' u' oc kc k U' := by
  have ef : fM u' k = fM u k := by
    unfold fM
    rw [(hu _ _ (by omega)).1]
  obtain ⟨h1, h2, h3, h4, U1, m1, h5, h6⟩ := h
  have row : ∀ {r U1 m1 w1 : Nat}, 100 * k ≤ r → r < 100 * k + 20 → U1 + m1 ≤ U → RWR c u oc kc r U1 m1 w1 → RWR c' u' oc kc r U1 m1 w1 := fun {r U1 m1 w1} r1 r2 r3 hr => RWR_k hr hB (fun A l z => hc A l (by unfold rcR at z; unfold mkR1; omega)) (fun A l z => hu A l (Or.inr (Or.inr (Or.inl ⟨r, r1, r2, z⟩)))) (fun A l z1 z2 z => hu A l (Or.inr (Or.inr (Or.inr ⟨z1, z2, z⟩))))
  unfold CFD
  rw [ef, (hc 14 k (by omega)).1, (hu 202 k (by omega)).1]
  refine ⟨h1, h2, h3, fun j hj => ?_, U1, m1, by omega, row (by omega) (by omega) h5 h6⟩
  obtain ⟨x1, x2, U2, m2, x3, x4⟩ := h4 j hj
  rw [(hc 15 _ (by omega)).2, (hc 16 _ (by omega)).1, (hu 204 _ (by omega)).2, (hu 205 _ (by omega)).1]
  exact ⟨x1, x2, U2, m2, by omega, row (by omega) (by omega) x3 x4⟩
set_option maxHeartbeats 8000000 in
theorem CMD_cg {tot' : Nat} (h : CMD K P V N c u oc kc k U tot) (hB : ENB u oc kc) (hU : U ≤ U') (ht : tot ≤ tot') (hc : ∀ A l, (A = 17 ∧ l = k) ∨ ((115 ≤ A ∧ A ≤ 120 ∧ A ≠ 118) ∧ 8 * k ≤ l ∧ l < 8 * k + 8) ∨ (A = 118 ∧ 64 * k ≤ l ∧ l < 64 * k + 64) ∨ (121 ≤ A ∧ A ≤ 132 ∧ l < tot) ∨ ((142 ≤ A ∧ A ≤ 144) ∧ ((100 * k + 20 ≤ l ∧ l < 100 * k + 100) ∨ (1218 ≤ l ∧ l < 1218 + tot))) ∨ mkR1 U A l → c'.1 A l = c.1 A l ∧ c'.2 A l = c.2 A l) (hu : ∀ A l, (A = 203 ∧ l = k) ∨ ((A = 206 ∨ A = 207 ∨ A = 208 ∨ A = 210) ∧ 8 * k ≤ l ∧ l < 8 * k + 8) ∨ (A = 209 ∧ 64 * k ≤ l ∧ l < 64 * k + 64) ∨ (211 ≤ A ∧ A ≤ 219 ∧ 320 * k ≤ l ∧ l < 320 * k + 320) ∨ ((A = 220 ∨ A = 221) ∧ 1280 * k ≤ l ∧ l < 1280 * k + 1280) ∨ (A = 222 ∧ 100 * k + 20 ≤ l ∧ l < 100 * k + 100) ∨ (223 ≤ A ∧ A ≤ 225 ∧ (100 * k + 20) * 20 ≤ l ∧ l < (100 * k + 100) * 20) ∨ (226 ≤ A ∧ A ≤ 228 ∧ (100 * k + 20) * 80 ≤ l ∧ l < (100 * k + 100) * 80) ∨ (181 ≤ A ∧ A ≤ 197 ∧ kuR kc A l) ∨ (A = 174 ∧ l = 15) → u'.1 A l = u.1 A l ∧ u'.2 A l = u.2 A l) : CMD K P V N c' u' oc kc k U' tot' := by
  have eq : qM u' k = qM u k := by
    unfold qM
    rw [(hu _ _ (by omega)).1]
  obtain ⟨h1, h2, h3, h4⟩ := h
  unfold CMD
  rw [eq, (hc 17 k (by omega)).1, (hu 203 k (by omega)).1]
  refine ⟨h1, h2, h3, fun j hj => ?_⟩
  obtain ⟨t, L, na, a0, x1, x2⟩ := h4 j hj
  refine ⟨t, L, na, a0, by omega, MTD_cg x2 hB hU (fun A l z => hc A l ?_) (fun A l z => ?_)⟩
  · unfold mcR at z
    rcases z with z | z | z | z | z
    · exact Or.inr (Or.inl (by omega))
    · exact Or.inr (Or.inr (Or.inl (by omega)))
    · exact Or.inr (Or.inr (Or.inr (Or.inl (by omega))))
    · exact Or.inr (Or.inr (Or.inr (Or.inr (Or.inl (by omega)))))
    · exact Or.inr (Or.inr (Or.inr (Or.inr (Or.inr z))))
  · rcases z with z | z | z
    · unfold muR at z
      rcases z with z | z | z | z | z | z | z
      · exact hu A l (Or.inr (Or.inl (by omega)))
      · exact hu A l (Or.inr (Or.inr (Or.inl (by omega))))
      · exact hu A l (Or.inr (Or.inr (Or.inr (Or.inl (by omega)))))
      · exact hu A l (Or.inr (Or.inr (Or.inr (Or.inr (Or.inl (by omega))))))
      · exact hu A l (Or.inr (Or.inr (Or.inr (Or.inr (Or.inr (Or.inl (by omega)))))))
      · exact hu A l (Or.inr (Or.inr (Or.inr (Or.inr (Or.inr (Or.inr (Or.inl (by omega))))))))
      · exact hu A l (Or.inr (Or.inr (Or.inr (Or.inr (Or.inr (Or.inr (Or.inr (Or.inl (by omega)))))))))
    · exact hu A l (Or.inr (Or.inr (Or.inr (Or.inr (Or.inr (Or.inr (Or.inr (Or.inr (Or.inl z)))))))))
    · exact hu A l (Or.inr (Or.inr (Or.inr (Or.inr (Or.inr (Or.inr (Or.inr (Or.inr (Or.inr z)))))))))
end MTDS
