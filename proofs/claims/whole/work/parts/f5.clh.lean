/-! READING CLASSES: a CLASS more; the beginning -/
section CLHS
variable {n i i' j N k f q M p0 a0 t m L na U U' tot W oc kc mc cc : Nat} {c d u v c0 u0 : cS} {K P : Nat → Nat} {V : Nat → Int64} {nm : Int64}
theorem CLV_N (h : CLV K P V N c u oc kc mc cc U tot i) : NMR c u oc kc mc cc := by
  obtain ⟨g1, g2, ⟨g3, g4, g5, g6, g7, g8⟩, -, -, g13, -⟩ := h
  exact ⟨g3.1, g3.2, ⟨g2.2.2.2.2.1, g4, g5, fun k hk => (g2.2.2.2.2.2 k hk).1⟩, ⟨g6, g7, g8, fun k hk => (g13 k hk).1.1⟩⟩
theorem CLV_0 (h : RDF K P V N c0 u0 oc kc mc U c u i) : CLV K P V N c u oc kc mc 0 U 0 i := by
  obtain ⟨h1, h2, h3, ⟨h4, h5, h6, h6a⟩, h7, h8, h9, h10⟩ := h
  have e0 : ccn u = 0 := by
    unfold ccn
    rw [h2.2.2.2.2.2.1]
    rfl
  have hm : ∀ M, mtb u M = false := fun M => by
    unfold mtb
    rw [e0]
    exact decide_eq_false (by omega)
  have hw : ∀ x, wgM u x = 0 := fun x => by
    induction x with
    | zero => rfl
    | succ x ih =>
      unfold wgM
      rw [ih, hm, if_neg (by decide)]
  refine ⟨h1, h3, ⟨⟨h2.1, h2.2.1⟩, h2.2.2.1.2.1, h2.2.2.1.2.2.1, by omega, h2.2.2.2.2.1, h2.2.2.2.2.2.1⟩, ⟨h4, h5, h6, h7⟩, ⟨h6a, by omega, by rw [hw]; omega⟩, fun k hk => absurd hk (Nat.not_lt_zero _), fun M M' z => ?_, fun p hp _ => (h8 p (by omega) (by omega) (by omega)).1, fun a _ z => (h8 (1218 + a) (by omega) ?_ ?_).1⟩
  · rw [hm] at z
    cases z
  · have := h3.2.2.1.1
    omega
  · have := h3.2.2.2.2.1
    omega
set_option maxHeartbeats 8000000 in
theorem CLV_h (h : CLV K P V N c u oc kc mc k U tot i) (hk : k < 12) (hnm : nm ≠ 0) (hH : HDQ K P V N c u oc kc k U i nm d v) : ∃ i' m, i < i' ∧ d.1 145 8 = nI k ∧ CLV K P V N d v oc kc mc (k + 1) (U + m) tot i' ∧ sx QRc c d ∧ sx QRu u v := by
  have eccu := ccn_of h
  obtain ⟨g1, g2, ⟨g3, g4, g5, g6, g7, g8⟩, ⟨-, -, -, g9⟩, ⟨g10, g11, g12⟩, g13, g14, g15, g16⟩ := h
  obtain ⟨sp, hsp, i', m, x1, x2, x3, x4, x5, x6, x7, x8, x9, x10, x11, x12, x13, x14, x15, x16, x17, sc, su⟩ := hH
  have hB := FRN_B g2
  have hkc := g3.2.1
  have hoc := g3.1.1
  have hmc := g2.2.2.2.2.1
  have D : ∀ A l, qHc k U A l = false → d.1 A l = c.1 A l ∧ d.2 A l = c.2 A l := fun A l z => ⟨sc.1 _ _ z, sc.2 _ _ z⟩
  have S : ∀ A l, qHu k A l = false → v.1 A l = u.1 A l ∧ v.2 A l = u.2 A l := fun A l z => ⟨su.1 _ _ z, su.2 _ _ z⟩
  have hjN := x2.2.1
  have hPP := TKR_le g1.1 (show i ≤ i' by omega) hjN
  have eqk : qM v k = 0 := by
    unfold qM
    rw [x11]
    rfl
  have efk : fM v k = 0 := by
    unfold fM
    rw [x10]
    rfl
  have eq : ∀ k', k' ≠ k → qM v k' = qM u k' := fun k' z => by
    unfold qM
    rw [(S _ _ (decide_eq_false (by omega))).1]
  have ef : ∀ k', k' ≠ k → fM v k' = fM u k' := fun k' z => by
    unfold fM
    rw [(S _ _ (decide_eq_false (by omega))).1]
  have ep : ∀ M, pM v M = pM u M := fun M => by
    unfold pM
    rw [(S _ _ (decide_eq_false (by omega))).1]
  have ecc : ccn v = k + 1 := by
    unfold ccn
    rw [x13, ix_n (by omega)]
  have emt : ∀ M, mtb v M = mtb u M := fun M => by
    unfold mtb
    rw [ecc, eccu]
    by_cases e : M / 8 = k
    · rw [e, eqk]
      rw [decide_eq_false (by omega), decide_eq_false (by omega)]
    · rw [eq _ e]
      exact decide_eq_decide.mpr (by omega)
  have eac : ∀ M, acn v M = acn u M := fun M => by
    unfold acn
    rw [(S _ _ (decide_eq_false (by omega))).1]
  refine ⟨i', m, by omega, x3, ⟨x2, FRN_cg g2 (by omega) (fun A l z => D A l (decide_eq_false (by unfold fcR mkR1 at z; unfold kA at z; omega))) (fun A l z => S A l (decide_eq_false ?_)), ⟨NMQ_cg g3 (fun l _ => (D _ _ (decide_eq_false (by omega))).1) (fun l _ => (D _ _ (decide_eq_false (by unfold oA; omega))).2) (fun l _ => (D _ _ (decide_eq_false (by unfold kA; omega))).2) (fun l _ => (S _ _ (decide_eq_false (by omega))).1) (fun l _ => (S _ _ (decide_eq_false (by omega))).2) (fun l _ => (S _ _ (decide_eq_false (by omega))).2), ?_, ?_, by omega, x12, x13⟩, ⟨x15, x16, x17, by omega⟩, ⟨?_, by omega, ?_⟩, fun k' hk' => ⟨?_, ?_, ?_⟩, fun M M' z1 z2 z3 => ?_, fun p hp hz => ?_, fun a z1 z2 => ?_⟩, qHc_c sc, qHu_u su⟩
  · unfold fuR at z
    rcases z with ⟨z1, z2, z⟩ | z | z | ⟨r, z1, z⟩
    · omega
    · omega
    · omega
    · unfold ruR at z
      omega
  · rw [(D _ _ (decide_eq_false (by omega))).1]
    exact g4
  · rw [(S _ _ (decide_eq_false (by omega))).1]
    exact g5
  · rw [(D _ _ (decide_eq_false (by omega))).1]
    exact g10
  · rw [wgM_cg (n := 96) (u := u) (fun M _ => ⟨emt M, fun _ => ⟨eac M, fun l _ => (S _ _ (decide_eq_false (by omega))).1⟩⟩) 96 (Nat.le_refl _)]
    omega
  · by_cases e : k' = k
    · rw [e]
      refine ⟨by rw [x4, x5], by rw [x5]; exact hnm, by rw [x6, x7], ?_⟩
      rw [x7]
      exact hsp
    · obtain ⟨y1, y2, y3, y4⟩ := (g13 k' (by omega)).1
      unfold CRD
      rw [(D _ _ (decide_eq_false (by omega))).2, (S _ _ (decide_eq_false (by omega))).2, (D _ _ (decide_eq_false (by omega))).1, (S _ _ (decide_eq_false (by omega))).1]
      exact ⟨y1, y2, y3, y4⟩
  · by_cases e : k' = k
    · rw [e]
      unfold CFD
      rw [efk]
      exact ⟨by omega, x8, x10, fun j hj => absurd hj (Nat.not_lt_zero _), U, m, Nat.le_refl _, x14⟩
    · refine CFD_cg (g13 k' (by omega)).2.1 hB (by omega) (fun A l z => D A l (decide_eq_false ?_)) (fun A l z => S A l (decide_eq_false ?_))
      · unfold mkR1 at z
        omega
      · rcases z with z | z | ⟨r, z1, z2, z⟩ | z
        · omega
        · omega
        · unfold ruR at z
          omega
        · omega
  · by_cases e : k' = k
    · rw [e]
      unfold CMD
      rw [eqk]
      exact ⟨by omega, x9, x11, fun j hj => absurd hj (Nat.not_lt_zero _)⟩
    · refine CMD_cg (g13 k' (by omega)).2.2 hB (by omega) (Nat.le_refl _) (fun A l z => D A l (decide_eq_false ?_)) (fun A l z => S A l (decide_eq_false ?_))
      · unfold mkR1 at z
        omega
      · omega
  · rw [emt] at z1 z2
    rw [eac]
    unfold fa
    rw [(D _ _ (decide_eq_false (by omega))).1, (D _ _ (decide_eq_false (by omega))).1]
    exact g14 M M' z1 z2 z3
  · have hne : p ≠ 100 * k := fun z => by
      unfold srt at hz
      rw [if_neg (by omega), if_pos (by omega)] at hz
      cases hz
    have hz2 : srt k u p = none := by
      unfold srt at hz ⊢
      by_cases e1 : k ≤ p / 100
      · rw [if_pos e1]
      · rw [if_neg (show ¬ k + 1 ≤ p / 100 by omega)] at hz
        rw [if_neg e1]
        rw [ef _ (by omega), eq _ (by omega), ep] at hz
        exact hz
    rw [(D _ _ (decide_eq_false (by omega))).1]
    exact g15 p hp hz2
  · rw [(D _ _ (decide_eq_false (by omega))).1]
    exact g16 a z1 z2
end CLHS
