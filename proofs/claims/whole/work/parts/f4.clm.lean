/-! READING CLASSES: a METHOD more -/
section CLMS
variable {n i i' j N k f q M p0 a0 t m L na U U' tot W oc kc mc cc : Nat} {c d u v c' u' : cS} {K P : Nat → Nat} {V : Nat → Int64}
theorem wgM_add {u v : cS} (h : ∀ M', M' < n → M' ≠ M → mtb v M' = mtb u M' ∧ (mtb u M' = true → acn v M' = acn u M' ∧ ∀ l, l < acn u M' → v.1 211 (40 * M' + l) = u.1 211 (40 * M' + l))) (hu : mtb u M = false) (hv : mtb v M = true) : ∀ x, x ≤ n → wgM v x = wgM u x + (if M < x then wgI v M (acn v M) else 0)
  | 0, _ => by
    rw [if_neg (by omega)]
    rfl
  | x + 1, hx => by
    have h1 := wgM_add h hu hv x (by omega)
    unfold wgM
    rw [h1]
    by_cases e : x = M
    · subst e
      rw [hu, hv, if_neg (show ¬ x < x by omega), if_pos rfl, if_neg (show ¬ false = true by decide), if_pos (show x < x + 1 by omega)]
    · obtain ⟨h2, h3⟩ := h x (by omega) e
      rw [h2]
      have hw : (if mtb u x = true then wgI v x (acn v x) else 0) = (if mtb u x = true then wgI u x (acn u x) else 0) := by
        by_cases e2 : mtb u x = true
        · rw [if_pos e2, if_pos e2, (h3 e2).1, wgI_cg (h3 e2).2 _ (Nat.le_refl _)]
        · rw [if_neg e2, if_neg e2]
      rw [hw]
      by_cases e3 : M < x
      · rw [if_pos e3, if_pos (show M < x + 1 by omega)]
        omega
      · rw [if_neg e3, if_neg (show ¬ M < x + 1 by omega)]
        omega
/-- ACTS of a METHOD that is read lie before tot -/
theorem CLV_fa (h : CLV K P V N c u oc kc mc cc U tot i) (hm : mtb u M = true) : fa c M + acn u M ≤ tot := by
  have ecc := ccn_of h
  have hm := of_decide_eq_true hm
  rw [ecc] at hm
  obtain ⟨t, L, na, a0, x1, x2⟩ := (h.2.2.2.2.2.1 (M / 8) hm.1).2.2.2.2.2 (M % 8) hm.2
  rw [show 8 * (M / 8) + M % 8 = M by omega] at x2
  obtain ⟨-, -, -, ⟨y1, y2, y3, y4, y5, y6⟩, -⟩ := x2
  unfold fa acn
  rw [y5, y4, ix_n (by omega), ix_n (by omega)]
  exact x1
set_option maxHeartbeats 8000000 in
theorem CLV_m (h : CLV K P V N c u oc kc mc (k + 1) U tot i) (hq : q = qM u k) (hM : M = 8 * k + q) (hp : p0 = 100 * k + 20 + 10 * q) (hi : i < i') (hq8 : q < 8) (hP : PSI K P V N d v i') (hU2 : 2 * U' ≤ i') (hUU : U ≤ U') (h4 : 4 * (tot + na) ≤ P i') (hW : 2 * (wgM u 96 + wgI v M na) ≤ P i') (hT : MTD K P V N d v M p0 tot t L na oc kc U') (h17 : d.1 17 k = nI (q + 1)) (h203 : v.1 203 k = nI (q + 1)) (h7 : d.1 114 7 = nI (tot + na)) (h11 : d.1 133 11 = nI U') (h12 : d.1 133 12 = nM) (h13 : d.1 133 13 = nI U') (hz : ∀ r, p0 ≤ r → r ≤ p0 + 4 → ¬ (p0 ≤ r ∧ r < p0 + 1 + t) → d.1 144 r = nI 0) (hTl : ∀ a, tot + na ≤ a → a < 1024 → d.1 144 (1218 + a) = nI 0) (sc : sx (qTc k M p0 U tot) c d) (su : sx (qTu k M p0) u v) : CLV K P V N d v oc kc mc (k + 1) U' (tot + na) i' := by
  have hfa : ∀ M1, mtb u M1 = true → fa c M1 + acn u M1 ≤ tot := fun M1 z => CLV_fa h z
  have eccu := ccn_of h
  obtain ⟨g1, g2, ⟨g3, g4, g5, g6, g7, g8⟩, ⟨-, -, -, g9⟩, ⟨g10, g11, g12⟩, g13, g14, g15, g16⟩ := h
  have hB := FRN_B g2
  have hkc := g3.2.1
  have hoc := g3.1.1
  have hmc := g2.2.2.2.2.1
  have D : ∀ A l, qTc k M p0 U tot A l = false → d.1 A l = c.1 A l ∧ d.2 A l = c.2 A l := fun A l z => ⟨sc.1 _ _ z, sc.2 _ _ z⟩
  have S : ∀ A l, qTu k M p0 A l = false → v.1 A l = u.1 A l ∧ v.2 A l = u.2 A l := fun A l z => ⟨su.1 _ _ z, su.2 _ _ z⟩
  obtain ⟨-, ⟨t4, -, t207⟩, -, ⟨n1, n40, -, n210, n119, n1000⟩, -⟩ := id hT
  have eqk : qM v k = q + 1 := by
    unfold qM
    rw [h203, ix_n (by omega)]
  have eq : ∀ k', k' ≠ k → qM v k' = qM u k' := fun k' z => by
    unfold qM
    rw [(S _ _ (decide_eq_false (by omega))).1]
  have ef : ∀ k', fM v k' = fM u k' := fun k' => by
    unfold fM
    rw [(S _ _ (decide_eq_false (by omega))).1]
  have ep : ∀ M', M' ≠ M → pM v M' = pM u M' := fun M' z => by
    unfold pM
    rw [(S _ _ (decide_eq_false (by omega))).1]
  have epM : pM v M = t := by
    unfold pM
    rw [t207, ix_n (by omega)]
  have ecc : ccn v = k + 1 := by
    rw [← eccu]
    unfold ccn
    rw [(S _ _ (decide_eq_false (by omega))).1]
  have eac : ∀ M', M' ≠ M → acn v M' = acn u M' := fun M' z => by
    unfold acn
    rw [(S _ _ (decide_eq_false (by omega))).1]
  have eaM : acn v M = na := by
    unfold acn
    rw [n210, ix_n (by omega)]
  have efM : fa d M = tot := by
    unfold fa
    rw [n119, ix_n (by omega)]
  have efa : ∀ M', M' ≠ M → fa d M' = fa c M' := fun M' z => by
    unfold fa
    rw [(D _ _ (decide_eq_false (by omega))).1]
  have emt : ∀ M', M' ≠ M → mtb v M' = mtb u M' := fun M' z => by
    unfold mtb
    rw [ecc, eccu]
    by_cases e : M' / 8 = k
    · rw [e, eqk, ← hq]
      exact decide_eq_decide.mpr (by omega)
    · rw [eq _ e]
  have hmu : mtb u M = false := by
    unfold mtb
    rw [eccu, show M / 8 = k by omega, ← hq]
    exact decide_eq_false (by omega)
  have hmv : mtb v M = true := by
    unfold mtb
    rw [ecc, show M / 8 = k by omega, eqk]
    exact decide_eq_true (by omega)
  refine ⟨hP, FRN_cg g2 hUU (fun A l z => D A l (decide_eq_false (by unfold fcR mkR1 at z; unfold kA at z; omega))) (fun A l z => S A l (decide_eq_false ?_)), ⟨NMQ_cg g3 (fun l _ => (D _ _ (decide_eq_false (by omega))).1) (fun l _ => (D _ _ (decide_eq_false (by unfold oA; omega))).2) (fun l _ => (D _ _ (decide_eq_false (by unfold kA; omega))).2) (fun l _ => (S _ _ (decide_eq_false (by omega))).1) (fun l _ => (S _ _ (decide_eq_false (by omega))).2) (fun l _ => (S _ _ (decide_eq_false (by omega))).2), ?_, ?_, g6, ?_, ?_⟩, ⟨h11, h12, h13, hU2⟩, ⟨h7, h4, ?_⟩, fun k' hk' => ⟨?_, ?_, ?_⟩, fun M1 M2 z1 z2 z3 => ?_, fun p hp hz' => ?_, hTl⟩
  · unfold fuR at z
    rcases z with ⟨z1, z2, z⟩ | z | z | ⟨r, z1, z⟩
    · omega
    · omega
    · omega
    · unfold ruR at z
      omega
  · rw [(D _ _ (decide_eq_false (by omega))).1]
    exact g4
  · rw [(S _ _ (decide_eq_false (by omega))).1]
    exact g5
  · rw [(D _ _ (decide_eq_false (by omega))).1]
    exact g7
  · rw [(S _ _ (decide_eq_false (by omega))).1]
    exact g8
  · rw [wgM_add (n := 96) (u := u) (v := v) (M := M) (fun M' _ z => ⟨emt M' z, fun _ => ⟨eac M' z, fun l hl => ?_⟩⟩) hmu hmv 96 (Nat.le_refl _), if_pos (by omega), eaM]
    · exact hW
    · have hm' : mtb u M' = true := by assumption
      have hmd := of_decide_eq_true hm'
      rw [eccu] at hmd
      obtain ⟨t', L', na', a0', x1, x2⟩ := (g13 (M' / 8) hmd.1).2.2.2.2.2 (M' % 8) hmd.2
      rw [show 8 * (M' / 8) + M' % 8 = M' by omega] at x2
      obtain ⟨-, -, -, ⟨y1, y2, y3, y4, y5, y6⟩, -⟩ := x2
      have : acn u M' = na' := by
        unfold acn
        rw [y4, ix_n (by omega)]
      exact (S _ _ (decide_eq_false (by omega))).1
  · obtain ⟨x1, x2, x3, x4⟩ := (g13 k' hk').1
    unfold CRD
    rw [(D _ _ (decide_eq_false (by omega))).2, (S _ _ (decide_eq_false (by omega))).2, (D _ _ (decide_eq_false (by omega))).1, (S _ _ (decide_eq_false (by omega))).1]
    exact ⟨x1, x2, x3, x4⟩
  · refine CFD_cg (g13 k' hk').2.1 hB hUU (fun A l z => D A l (decide_eq_false ?_)) (fun A l z => S A l (decide_eq_false ?_))
    · unfold mkR1 at z
      omega
    · rcases z with z | z | ⟨r, z1, z2, z⟩ | z
      · omega
      · omega
      · unfold ruR at z
        omega
      · omega
  · by_cases e : k' = k
    · subst e
      obtain ⟨x1, x2, x3, x4⟩ := (g13 k' hk').2.2
      rw [← hq] at x4
      unfold CMD
      rw [eqk]
      refine ⟨by omega, h17, h203, fun j hj => ?_⟩
      by_cases ej : j = q
      · rw [ej, ← hM, ← hp]
        exact ⟨t, L, na, tot, Nat.le_refl _, hT⟩
      · obtain ⟨t', L', na', a0', y1, y2⟩ := x4 j (by omega)
        refine ⟨t', L', na', a0', by omega, MTD_cg y2 hB hUU (fun A l z => D A l (decide_eq_false ?_)) (fun A l z => S A l (decide_eq_false ?_))⟩
        · unfold mcR mkR1 at z
          omega
        · rcases z with z | z | z
          · unfold muR at z
            omega
          · omega
          · omega
    · refine CMD_cg (g13 k' hk').2.2 hB hUU (by omega) (fun A l z => D A l (decide_eq_false ?_)) (fun A l z => S A l (decide_eq_false ?_))
      · unfold mkR1 at z
        omega
      · omega
  · by_cases e1 : M1 = M
    · exfalso
      have hm2 := of_decide_eq_true z2
      rw [ecc] at hm2
      have e2 : M2 / 8 = k := by omega
      rw [e2, eqk] at hm2
      omega
    · rw [emt _ e1] at z1
      rw [efa _ e1, eac _ e1]
      by_cases e2 : M2 = M
      · rw [e2, efM]
        exact hfa M1 z1
      · rw [emt _ e2] at z2
        rw [efa _ e2]
        exact g14 M1 M2 z1 z2 z3
  · by_cases e1 : p0 ≤ p ∧ p ≤ p0 + 4
    · refine hz p e1.1 e1.2 (fun z => ?_)
      unfold srt at hz'
      rw [if_neg (by omega), if_neg (by omega), if_neg (by omega), show p / 100 = k by omega, show (p % 100 - 20) / 10 = q by omega, eqk, ← hM, epM, if_neg (by omega)] at hz'
      cases hz'
    · have hz2 : srt (k + 1) u p = none := by
        unfold srt at hz' ⊢
        by_cases e2 : k + 1 ≤ p / 100
        · rw [if_pos e2]
        · rw [if_neg e2] at hz' ⊢
          by_cases e3 : p % 100 = 0
          · rw [if_pos e3] at hz'
            cases hz'
          · rw [if_neg e3] at hz' ⊢
            by_cases e4 : p % 100 < 20
            · rw [if_pos e4] at hz' ⊢
              rw [ef] at hz'
              exact hz'
            · rw [if_neg e4] at hz' ⊢
              by_cases e5 : p / 100 = k
              · by_cases e6 : q ≤ (p % 100 - 20) / 10
                · rw [e5, ← hq, if_pos (Or.inl e6)]
                · rw [e5, eqk, ep _ (by omega)] at hz'
                  rw [e5, ← hq]
                  by_cases e7 : q ≤ (p % 100 - 20) / 10 ∨ pM u (8 * k + (p % 100 - 20) / 10) < p % 10
                  · rw [if_pos e7]
                  · rw [if_neg (by omega)] at hz'
                    cases hz'
              · rw [eq _ e5, ep _ (by omega)] at hz'
                exact hz'
      rw [(D _ _ (decide_eq_false (by omega))).1]
      exact g15 p hp hz2
end CLMS
