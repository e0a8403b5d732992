/-! READING CLASSES: all that is read; a FIELD more -/
section CLVS
variable {n i i' j N k f q M p0 a0 t m L na U U' tot W oc kc mc cc : Nat} {c d u v c' u' : cS} {K P : Nat → Nat} {V : Nat → Int64}
/-- how many wishes there may be, METHOD by METHOD -/
def wgM (u : cS) : Nat → Nat
  | 0 => 0
  | M + 1 => wgM u M + (if mtb u M = true then wgI u M (acn u M) else 0)
theorem wgM_cg (h : ∀ M, M < n → mtb u' M = mtb u M ∧ (mtb u M = true → acn u' M = acn u M ∧ ∀ l, l < acn u M → u'.1 211 (40 * M + l) = u.1 211 (40 * M + l))) : ∀ x, x ≤ n → wgM u' x = wgM u x
  | 0, _ => rfl
  | x + 1, hx => by
    have h1 := wgM_cg h x (by omega)
    obtain ⟨h2, h3⟩ := h x (by omega)
    unfold wgM
    rw [h1, h2]
    by_cases e : mtb u x = true
    · rw [if_pos e, if_pos e, (h3 e).1, wgI_cg (h3 e).2 _ (Nat.le_refl _)]
    · rw [if_neg e, if_neg e]
/-- first ACTS follow each other -/
def FAO (c u : cS) : Prop := ∀ M M', mtb u M = true → mtb u M' = true → M < M' → fa c M + acn u M ≤ fa c M'
def ZRC (c u : cS) (cc : Nat) : Prop := ∀ p, p < 1200 → srt cc u p = none → c.1 144 p = nI 0
/-- all that is read of CLASSES -/
def CLV (K P : Nat → Nat) (V : Nat → Int64) (N : Nat) (c u : cS) (oc kc mc cc U tot i : Nat) : Prop := PSI K P V N c u i ∧ FRN c u oc kc mc U ∧ (NMQ c u oc kc ∧ c.1 7 7 = nI mc ∧ u.1 174 34 = nI mc ∧ cc ≤ 12 ∧ c.1 7 10 = nI cc ∧ u.1 174 37 = nI cc) ∧ (c.1 133 11 = nI U ∧ c.1 133 12 = nM ∧ c.1 133 13 = nI U ∧ 2 * U ≤ i) ∧ (c.1 114 7 = nI tot ∧ 4 * tot ≤ P i ∧ 2 * wgM u 96 ≤ P i) ∧ (∀ k, k < cc → CRD c u k ∧ CFD c u oc kc k U ∧ CMD K P V N c u oc kc k U tot) ∧ FAO c u ∧ ZRC c u cc ∧ ∀ a, tot ≤ a → a < 1024 → c.1 144 (1218 + a) = nI 0
theorem CLV_V (h : CLV K P V N c u oc kc mc cc U tot i) : ENV c u oc kc mc 0 := FRN_V h.2.1 h.2.2.1.1
theorem ccn_of (h : CLV K P V N c u oc kc mc cc U tot i) : ccn u = cc := by
  unfold ccn
  have := h.2.2.1.2.2.2.1
  rw [h.2.2.1.2.2.2.2.2, ix_n (by omega)]
set_option maxHeartbeats 8000000 in
/-- a FIELD more -/
theorem CLV_f (h : CLV K P V N c u oc kc mc (k + 1) U tot i) (hi : i + 2 * m + 1 ≤ i') (hP : PSI K P V N d v i') (hf : fM u k < 8) (h15 : d.2 15 (k * 8 + fM u k) = v.2 204 (8 * k + fM u k)) (h16 : d.1 16 (k * 8 + fM u k) = v.1 205 (8 * k + fM u k)) (h14 : d.1 14 k = nI (fM u k + 1)) (h202 : v.1 202 k = nI (fM u k + 1)) (hR : RWR d v oc kc (100 * k + 1 + fM u k) U m 1) (h11 : d.1 133 11 = nI (U + m)) (h12 : d.1 133 12 = nM) (h13 : d.1 133 13 = nI (U + m)) (sc : sx (qFdc k (fM u k) U) c d) (su : sx (qFu k (fM u k)) u v) : CLV K P V N d v oc kc mc (k + 1) (U + m) tot i' := by
  obtain ⟨f, hfe⟩ : ∃ f, f = fM u k := ⟨_, rfl⟩
  rw [← hfe] at hf h15 h16 h14 h202 hR sc su
  obtain ⟨g1, g2, ⟨g3, g4, g5, g6, g7, g8⟩, ⟨-, -, -, g9⟩, ⟨g10, g11, g12⟩, g13, g14, g15, g16⟩ := h
  have hB := FRN_B g2
  have hkc := g3.2.1
  have hoc := g3.1.1
  have hmc := g2.2.2.2.2.1
  have D : ∀ A l, qFdc k f U A l = false → d.1 A l = c.1 A l ∧ d.2 A l = c.2 A l := fun A l z => ⟨sc.1 _ _ z, sc.2 _ _ z⟩
  have S : ∀ A l, qFu k f A l = false → v.1 A l = u.1 A l ∧ v.2 A l = u.2 A l := fun A l z => ⟨su.1 _ _ z, su.2 _ _ z⟩
  have hjN := hP.2.1
  have hPP := TKR_le g1.1 (show i ≤ i' by omega) hjN
  have efk : fM v k = f + 1 := by
    unfold fM
    rw [h202, ix_n (by omega)]
  have ef : ∀ k', k' ≠ k → fM v k' = fM u k' := fun k' z => by
    unfold fM
    rw [(S _ _ (decide_eq_false (by omega))).1]
  have eq : ∀ k', qM v k' = qM u k' := fun k' => by
    unfold qM
    rw [(S _ _ (decide_eq_false (by omega))).1]
  have ep : ∀ M, pM v M = pM u M := fun M => by
    unfold pM
    rw [(S _ _ (decide_eq_false (by omega))).1]
  have ecc : ccn v = ccn u := by
    unfold ccn
    rw [(S _ _ (decide_eq_false (by omega))).1]
  have emt : ∀ M, mtb v M = mtb u M := fun M => by
    unfold mtb
    rw [ecc, eq]
  have eac : ∀ M, acn v M = acn u M := fun M => by
    unfold acn
    rw [(S _ _ (decide_eq_false (by omega))).1]
  refine ⟨hP, FRN_cg g2 (by omega) (fun A l z => D A l (decide_eq_false (by unfold fcR mkR1 at z; unfold kA at z; omega))) (fun A l z => S A l (decide_eq_false ?_)), ⟨NMQ_cg g3 (fun l _ => (D _ _ (decide_eq_false (by omega))).1) (fun l _ => (D _ _ (decide_eq_false (by unfold oA; omega))).2) (fun l _ => (D _ _ (decide_eq_false (by unfold kA; omega))).2) (fun l _ => (S _ _ (decide_eq_false (by omega))).1) (fun l _ => (S _ _ (decide_eq_false (by omega))).2) (fun l _ => (S _ _ (decide_eq_false (by omega))).2), ?_, ?_, g6, ?_, ?_⟩, ⟨h11, h12, h13, by omega⟩, ⟨?_, by omega, ?_⟩, fun k' hk' => ⟨?_, ?_, ?_⟩, fun M M' z1 z2 z3 => ?_, fun p hp hz => ?_, fun a z1 z2 => ?_⟩
  · unfold fuR at z
    rcases z with ⟨z1, z2, z⟩ | z | z | ⟨r, z1, z⟩
    · omega
    · omega
    · omega
    · unfold ruR at z
      omega
  · rw [(D _ _ (decide_eq_false (by omega))).1]
    exact g4
  · rw [(S _ _ (decide_eq_false (by omega))).1]
    exact g5
  · rw [(D _ _ (decide_eq_false (by omega))).1]
    exact g7
  · rw [(S _ _ (decide_eq_false (by omega))).1]
    exact g8
  · rw [(D _ _ (decide_eq_false (by omega))).1]
    exact g10
  · rw [wgM_cg (n := 96) (u := u) (fun M _ => ⟨emt M, fun _ => ⟨eac M, fun l _ => (S _ _ (decide_eq_false (by omega))).1⟩⟩) 96 (Nat.le_refl _)]
    omega
  · obtain ⟨x1, x2, x3, x4⟩ := (g13 k' hk').1
    unfold CRD
    rw [(D _ _ (decide_eq_false (by omega))).2, (S _ _ (decide_eq_false (by omega))).2, (D _ _ (decide_eq_false (by omega))).1, (S _ _ (decide_eq_false (by omega))).1]
    exact ⟨x1, x2, x3, x4⟩
  · by_cases e : k' = k
    · subst e
      obtain ⟨x1, x2, x3, x4, U1, m1, x5, x6⟩ := (g13 k' hk').2.1
      rw [← hfe] at x1 x2 x3 x4
      have row : ∀ {r U1 m1 w1 : Nat}, 100 * k' ≤ r → r < 100 * k' + 1 + f → U1 + m1 ≤ U → RWR c u oc kc r U1 m1 w1 → RWR d v oc kc r U1 m1 w1 := fun {r U1 m1 w1} r1 r2 r3 hr => RWR_k hr hB (fun A l z => D A l (decide_eq_false (by unfold rcR at z; omega))) (fun A l z => S A l (decide_eq_false (by unfold ruR at z; omega))) (fun A l z1 z2 z => S A l (decide_eq_false (by omega)))
      unfold CFD
      rw [efk]
      refine ⟨by omega, h14, h202, fun j hj => ?_, U1, m1, by omega, row (by omega) (by omega) x5 x6⟩
      by_cases ej : j = f
      · rw [ej]
        exact ⟨h15, h16, U, m, Nat.le_refl _, hR⟩
      · obtain ⟨y1, y2, U2, m2, y3, y4⟩ := x4 j (by omega)
        rw [(D _ _ (decide_eq_false (by omega))).2, (S _ _ (decide_eq_false (by omega))).2, (D _ _ (decide_eq_false (by omega))).1, (S _ _ (decide_eq_false (by omega))).1]
        exact ⟨y1, y2, U2, m2, by omega, row (by omega) (by omega) y3 y4⟩
    · refine CFD_cg (g13 k' hk').2.1 hB (by omega) (fun A l z => D A l (decide_eq_false ?_)) (fun A l z => S A l (decide_eq_false ?_))
      · unfold mkR1 at z
        omega
      · rcases z with z | z | ⟨r, z1, z2, z⟩ | z
        · omega
        · omega
        · unfold ruR at z
          omega
        · omega
  · refine CMD_cg (g13 k' hk').2.2 hB (by omega) (Nat.le_refl _) (fun A l z => D A l (decide_eq_false ?_)) (fun A l z => S A l (decide_eq_false ?_))
    · unfold mkR1 at z
      omega
    · omega
  · rw [emt] at z1 z2
    rw [eac]
    unfold fa
    rw [(D _ _ (decide_eq_false (by omega))).1, (D _ _ (decide_eq_false (by omega))).1]
    exact g14 M M' z1 z2 z3
  · have hz2 : srt (k + 1) u p = none := by
      unfold srt at hz ⊢
      by_cases e1 : k + 1 ≤ p / 100
      · rw [if_pos e1]
      · rw [if_neg e1] at hz ⊢
        by_cases e2 : p % 100 = 0
        · rw [if_pos e2] at hz
          cases hz
        · rw [if_neg e2] at hz ⊢
          by_cases e3 : p % 100 < 20
          · rw [if_pos e3] at hz ⊢
            by_cases e4 : p / 100 = k
            · rw [e4, efk] at hz
              rw [e4, ← hfe]
              by_cases e5 : p % 100 ≤ f + 1
              · rw [if_pos e5] at hz
                cases hz
              · rw [if_neg (by omega)]
            · rw [ef _ e4] at hz
              exact hz
          · rw [if_neg e3] at hz ⊢
            rw [eq, ep] at hz
            exact hz
    have hne : p ≠ 100 * k + 1 + f := fun z => by
      unfold srt at hz
      rw [if_neg (by omega), if_neg (by omega), if_pos (by omega), show p / 100 = k by omega, efk, if_pos (by omega)] at hz
      cases hz
    rw [(D _ _ (decide_eq_false (by omega))).1]
    exact g15 p hp hz2
  · rw [(D _ _ (decide_eq_false (by omega))).1]
    exact g16 a z1 z2
end CLVS
