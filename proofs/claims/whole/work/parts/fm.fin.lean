/-! WHAT IS READ is a program -/
section FINS
variable {n i j N k M U m oc kc mc cc tot p s : Nat} {c u c1 u1 c2 u2 c3 u3 c4 u4 : cS} {K P : Nat → Nat} {V : Nat → Int64}
/-- the row of a PLACE that is read -/
theorem CLV_row (h : CLV K P V N c u oc kc mc cc U tot i) (hp : srt cc u p = some s) : ∃ U' m', U' + m' ≤ U ∧ RWR c u oc kc p U' m' s ∧ s = si p := by
  obtain ⟨-, -, ⟨-, -, -, g6, -⟩, -, -, g13, -⟩ := h
  unfold srt at hp
  by_cases e1 : cc ≤ p / 100
  · rw [if_pos e1] at hp
    cases hp
  rw [if_neg e1] at hp
  by_cases e2 : p % 100 = 0
  · rw [if_pos e2] at hp
    cases hp
    obtain ⟨-, -, -, -, U', m', x1, x2⟩ := (g13 (p / 100) (by omega)).2.1
    rw [show 100 * (p / 100) = p by omega] at x2
    refine ⟨U', m', x1, x2, ?_⟩
    unfold si
    rw [if_pos e2]
  rw [if_neg e2] at hp
  by_cases e3 : p % 100 < 20
  · rw [if_pos e3] at hp
    by_cases e4 : p % 100 ≤ fM u (p / 100)
    · rw [if_pos e4] at hp
      cases hp
      obtain ⟨-, -, -, x4, -⟩ := (g13 (p / 100) (by omega)).2.1
      obtain ⟨-, -, U', m', x1, x2⟩ := x4 (p % 100 - 1) (by omega)
      rw [show 100 * (p / 100) + 1 + (p % 100 - 1) = p by omega] at x2
      refine ⟨U', m', x1, x2, ?_⟩
      unfold si
      rw [if_neg e2, if_pos e3]
    · rw [if_neg e4] at hp
      cases hp
  rw [if_neg e3] at hp
  by_cases e5 : qM u (p / 100) ≤ (p % 100 - 20) / 10 ∨ pM u (8 * (p / 100) + (p % 100 - 20) / 10) < p % 10
  · rw [if_pos e5] at hp
    cases hp
  rw [if_neg e5] at hp
  obtain ⟨q8, -, -, hm⟩ := (g13 (p / 100) (by omega)).2.2
  obtain ⟨t, L, na, a0, x1, x2⟩ := hm ((p % 100 - 20) / 10) (by omega)
  obtain ⟨-, ⟨t1, t2, t3⟩, -, -, -, ⟨U1, m1, y1, y2⟩, y3, -⟩ := x2
  have hpt : pM u (8 * (p / 100) + (p % 100 - 20) / 10) = t := by
    unfold pM
    rw [t3, ix_n (by omega)]
  by_cases e6 : p % 10 = 0
  · rw [if_pos e6] at hp
    cases hp
    rw [show 100 * (p / 100) + 20 + 10 * ((p % 100 - 20) / 10) = p by omega] at y2
    refine ⟨U1, m1, y1, y2, ?_⟩
    unfold si
    rw [if_neg e2, if_neg e3, if_pos e6]
  · rw [if_neg e6] at hp
    cases hp
    obtain ⟨U2, m2, z1, z2⟩ := y3 (p % 10 - 1) (by omega)
    rw [show 100 * (p / 100) + 20 + 10 * ((p % 100 - 20) / 10) + 1 + (p % 10 - 1) = p by omega] at z2
    refine ⟨U2, m2, z1, z2, ?_⟩
    unfold si
    rw [if_neg e2, if_neg e3, if_neg e6]
theorem DALL_of (h : CLV K P V N c1 u1 oc kc mc cc U tot i) (hcc : 1 ≤ cc) (hS : NSF c1 u1 c2 u2) : DALL c2 u2 := by
  obtain ⟨s1, s2, s3⟩ := hS
  have D : ∀ A x, ¬ (122 ≤ A ∧ A ≤ 124) → c2.1 A x = c1.1 A x ∧ c2.2 A x = c1.2 A x := fun A x z => ⟨s1.1 _ _ (decide_eq_false (by omega)), s1.2 _ _ (decide_eq_false (by omega))⟩
  have S : ∀ A x, ¬ ((214 ≤ A ∧ A ≤ 216) ∨ A = 229) → u2.1 A x = u1.1 A x ∧ u2.2 A x = u1.2 A x := fun A x z => ⟨s2.1 _ _ (decide_eq_false (by omega)), s2.2 _ _ (decide_eq_false (by omega))⟩
  have efa : ∀ M, fa c2 M = fa c1 M := fun M => by
    unfold fa
    rw [(D _ _ (by omega)).1]
  have eac : ∀ M, acn u2 M = acn u1 M := fun M => by
    unfold acn
    rw [(S _ _ (by omega)).1]
  have emt : ∀ M, mtb u2 M = mtb u1 M := fun M => by
    unfold mtb ccn qM
    rw [(S _ _ (by omega)).1, (S _ _ (by omega)).1]
  refine ⟨CCS_cg (CLV_C h hcc) (fun A x z => D A x (by omega)) (fun A x z => S A x (by omega)), by rw [(S _ _ (by omega)).1]; exact h.1.2.2.2.2, fun M hM => ?_, fun M M' m1 m2 hlt => ?_⟩
  · rw [emt] at hM
    rw [efa, eac]
    obtain ⟨hM96, t, L, na, a0, hfa, hac, hD⟩ := CLV_M h hM
    obtain ⟨-, -, -, ⟨n1, n2, n3, n4, n5, n6⟩, -⟩ := hD
    rw [hfa, hac]
    refine ⟨hM96, ⟨n1, n2⟩, by rw [(S _ _ (by omega)).1]; exact n4, by rw [(D _ _ (by omega)).1]; exact n3, by rw [(D _ _ (by omega)).1]; exact n5, by omega, fun l hl => ?_⟩
    have := s3 M l hM (by omega)
    rw [hfa] at this
    refine ⟨ACN_D this, ?_⟩
    obtain ⟨_, -, -, -, -, ⟨-, z, -⟩, -⟩ := this
    exact z
  · rw [emt] at m1 m2
    rw [efa, efa, eac]
    exact h.2.2.2.2.2.2.1 M M' m1 m2 hlt
theorem wI_le (h : ∀ l, l < k → wnt u (40 * M + l) ≤ if opn u (40 * M + l) = 20 then 4 else 1) : ∀ l, l ≤ k → wI u M l ≤ wgI u M l
  | 0, _ => Nat.le_refl _
  | l + 1, hl => by
    unfold wI wgI
    have h1 := wI_le h l (by omega)
    have h2 := h l (by omega)
    omega
theorem wM_le (h : ∀ M, mtb u M = true → ∀ l, l < acn u M → wnt u (40 * M + l) ≤ if opn u (40 * M + l) = 20 then 4 else 1) : ∀ x, wM u x ≤ wgM u x
  | 0 => Nat.le_refl _
  | x + 1 => by
    unfold wM wgM
    have h1 := wM_le h x
    by_cases e : mtb u x = true
    · rw [if_pos e, if_pos e]
      have h2 := wI_le (h x e) _ (Nat.le_refl _)
      omega
    · rw [if_neg e, if_neg e]
      omega
set_option maxHeartbeats 8000000 in
theorem fin_pg (h : CLV K P V N c1 u1 oc kc mc cc U tot i) (hcc : 1 ≤ cc) (hS : NSF c1 u1 c2 u2) (hD : DFX c2 u2 c4 u4) (h4 : sx (fun A l => decide ((A = 7 ∧ l = 0) ∨ (A = 146 ∧ l = 8) ∨ A = 148)) c4 c3) (h5 : sx (fun A l => decide ((A = 174 ∧ (l = 0 ∨ l = 14)) ∨ A = 235)) u4 u3) : PG c3 u3 ∧ WB u3 ∧ CN u3 ∧ BT u3 c3 (fun _ _ _ => False) ∧ FRN c3 u3 oc kc mc U ∧ (∀ p s, isP u3 p s → ∃ U' m', U' + m' ≤ U ∧ RWR c3 u3 oc kc p U' m' s) := by
  have hDA := DALL_of h hcc hS
  have hP0 := PSI_K h.1
  obtain ⟨s1, s2, s3⟩ := hS
  obtain ⟨d1, d2, d3⟩ := hD
  have D2 : ∀ A x, ¬ (122 ≤ A ∧ A ≤ 124) → c2.1 A x = c1.1 A x ∧ c2.2 A x = c1.2 A x := fun A x z => ⟨s1.1 _ _ (decide_eq_false (by omega)), s1.2 _ _ (decide_eq_false (by omega))⟩
  have S2 : ∀ A x, ¬ ((214 ≤ A ∧ A ≤ 216) ∨ A = 229) → u2.1 A x = u1.1 A x ∧ u2.2 A x = u1.2 A x := fun A x z => ⟨s2.1 _ _ (decide_eq_false (by omega)), s2.2 _ _ (decide_eq_false (by omega))⟩
  have D3 : ∀ A x, ¬ (A = 125 ∨ (A = 7 ∧ x = 0) ∨ (A = 146 ∧ x = 8) ∨ A = 148) → c3.1 A x = c2.1 A x ∧ c3.2 A x = c2.2 A x := fun A x z => ⟨by rw [h4.1 _ _ (decide_eq_false (by omega))]; exact d1.1 _ _ (decide_eq_false (by omega)), by rw [h4.2 _ _ (decide_eq_false (by omega))]; exact d1.2 _ _ (decide_eq_false (by omega))⟩
  have S3 : ∀ A x, ¬ (A = 230 ∨ A = 231 ∨ A = 235 ∨ (A = 174 ∧ (x = 0 ∨ x = 14))) → u3.1 A x = u2.1 A x ∧ u3.2 A x = u2.2 A x := fun A x z => ⟨by rw [h5.1 _ _ (decide_eq_false (by omega))]; exact d2.1 _ _ (decide_eq_false (by omega)), by rw [h5.2 _ _ (decide_eq_false (by omega))]; exact d2.2 _ _ (decide_eq_false (by omega))⟩
  have C : ∀ A x, ¬ ((122 ≤ A ∧ A ≤ 125) ∨ (A = 7 ∧ x = 0) ∨ (A = 146 ∧ x = 8) ∨ A = 148) → c3.1 A x = c1.1 A x ∧ c3.2 A x = c1.2 A x := fun A x z => by
    rw [(D3 A x (by omega)).1, (D3 A x (by omega)).2]
    exact D2 A x (by omega)
  have S : ∀ A x, ¬ ((214 ≤ A ∧ A ≤ 216) ∨ (229 ≤ A ∧ A ≤ 231) ∨ A = 235 ∨ (A = 174 ∧ (x = 0 ∨ x = 14))) → u3.1 A x = u1.1 A x ∧ u3.2 A x = u1.2 A x := fun A x z => by
    rw [(S3 A x (by omega)).1, (S3 A x (by omega)).2]
    exact S2 A x (by omega)
  have hB := FRN_B h.2.1
  have hF : FRN c3 u3 oc kc mc U := FRN_cg h.2.1 (Nat.le_refl _) (fun A l z => C A l (by unfold fcR mkR1 at z; unfold kA at z; have := h.2.2.1.1.2.1; omega)) (fun A l z => S A l (by
    unfold fuR at z
    rcases z with ⟨z1, z2, z⟩ | z | z | ⟨r, z1, z⟩
    · omega
    · omega
    · omega
    · unfold ruR at z
      omega))
  have hk : u3.1 174 24 = nI kc := by
    rw [(S _ _ (by omega)).1]
    exact h.2.2.1.1.2.2.2.1
  have hc4 : c3.1 7 4 = nI kc := by
    rw [(C _ _ (by omega)).1]
    exact h.2.2.1.1.2.2.1
  have ho := FRN_oc hF
  have hkc := FRN_kc hF hk
  have hC : CCS c3 u3 := CCS_cg (CLV_C h hcc) (fun A x z => C A x (by omega)) (fun A x z => S A x (by omega))
  have ecc : ccn u3 = cc := by
    rw [← ccn_of h]
    unfold ccn
    rw [(S _ _ (by omega)).1]
  have efm : fM u3 = fM u1 := funext fun k => by
    unfold fM
    rw [(S _ _ (by omega)).1]
  have eqm : qM u3 = qM u1 := funext fun k => by
    unfold qM
    rw [(S _ _ (by omega)).1]
  have epm : pM u3 = pM u1 := funext fun k => by
    unfold pM
    rw [(S _ _ (by omega)).1]
  have esr : ∀ p, srt (ccn u3) u3 p = srt cc u1 p := fun p => by
    unfold srt
    rw [ecc, efm, eqm, epm]
  have hrow : ∀ p s, isP u3 p s → ∃ U' m', U' + m' ≤ U ∧ RWR c3 u3 oc kc p U' m' s ∧ s = si p := fun p s hp => by
    unfold isP at hp
    rw [esr] at hp
    obtain ⟨U', m', x1, x2, x3⟩ := CLV_row h hp
    refine ⟨U', m', x1, RWR_k x2 hB (fun A l z => C A l (by unfold rcR at z; omega)) (fun A l z => S A l (by unfold ruR at z; omega)) (fun A l z1 z2 _ => S A l (by omega)), x3⟩
  have hEC : EC c3 u3 := by
    refine ⟨?_, KKS_of hF hk hc4, hC, fun p s hp => ?_⟩
    · unfold OOS
      rw [← ho]
      exact hF.1
    · obtain ⟨U', m', x1, x2, x3⟩ := hrow p s hp
      exact RP_of ho hkc x3 x2
  have efa : ∀ M, fa c3 M = fa c1 M := fun M => by
    unfold fa
    rw [(C _ _ (by omega)).1]
  have eac : ∀ M, acn u3 M = acn u1 M := fun M => by
    unfold acn
    rw [(S _ _ (by omega)).1]
  have emt : ∀ M, mtb u3 M = mtb u1 M := fun M => by
    unfold mtb ccn qM
    rw [(S _ _ (by omega)).1, (S _ _ (by omega)).1]
  have efa2 : ∀ M, fa c2 M = fa c1 M := fun M => by
    unfold fa
    rw [(D2 _ _ (by omega)).1]
  have eac2 : ∀ M, acn u2 M = acn u1 M := fun M => by
    unfold acn
    rw [(S2 _ _ (by omega)).1]
  have emt2 : ∀ M, mtb u2 M = mtb u1 M := fun M => by
    unfold mtb ccn qM
    rw [(S2 _ _ (by omega)).1, (S2 _ _ (by omega)).1]
  have hACD : ∀ M l, mtb u1 M = true → l < acn u1 M → ACD c3 u3 M (fa c1 M + l) (40 * M + l) := fun M l hM hl => ACD_cg (ACN_D (s3 M l hM hl)) (fun A x z => D3 A x (by unfold acW3 at z; omega)) (fun A x z => S3 A x (by unfold auW at z; omega))
  have hMT : MTS c3 u3 := by
    refine ⟨⟨tot, ?_, by rw [(C _ _ (by omega)).1]; exact h.2.2.2.2.1.1, fun M hM => ?_⟩, fun M hM => ⟨?_, ?_, fun l hl => ?_⟩, fun M M' m1 m2 hlt => ?_⟩
    · have := h.2.2.2.2.1.2.1
      omega
    · have hM := mtb_t.mpr hM
      rw [emt] at hM
      rw [efa, eac]
      have ecc1 := ccn_of h
      obtain ⟨m1, m2⟩ := of_decide_eq_true hM
      obtain ⟨q8, -, -, hm⟩ := (h.2.2.2.2.2.1 (M / 8) (by omega)).2.2
      obtain ⟨t, L, na, a0, x1, x2⟩ := hm (M % 8) m2
      rw [show 8 * (M / 8) + M % 8 = M by omega] at x2
      obtain ⟨-, -, -, ⟨n1, n2, n3, n4, n5, n6⟩, -⟩ := x2
      have e1 : fa c1 M = a0 := by
        unfold fa
        rw [n5, ix_n (by omega)]
      have e2 : acn u1 M = na := by
        unfold acn
        rw [n4, ix_n (by omega)]
      omega
    · have hM := mtb_t.mpr hM
      rw [emt] at hM
      obtain ⟨hM96, t, L, na, a0, hfa, hac, hD⟩ := CLV_M h hM
      obtain ⟨-, ⟨t1, t2, t3⟩, ⟨l1, l2, l3, l4, l5⟩, ⟨n1, n2, n3, n4, n5, n6⟩, -⟩ := hD
      have elc : lcn u3 M = L := by
        unfold lcn
        rw [(S _ _ (by omega)).1, l4, ix_n (by omega)]
      have ept : pM u3 M = t := by
        unfold pM
        rw [(S _ _ (by omega)).1, t3, ix_n (by omega)]
      unfold MTR
      rw [eac, hac, elc, ept, efa, hfa, (S _ _ (by omega)).1, (C 120 _ (by omega)).1, (S 208 _ (by omega)).1, (C 117 _ (by omega)).1, (C 119 _ (by omega)).1]
      exact ⟨⟨n1, n2⟩, n4, n3, ⟨l2, l1⟩, l4, l3, fun x hx => by rw [(C _ _ (by omega)).2, (S _ _ (by omega)).2]; exact l5 x hx, n5, by omega⟩
    · have hM := mtb_t.mpr hM
      rw [emt, ← emt2] at hM
      rw [h5.1 _ _ (decide_eq_false (by omega))]
      exact (d3 M hM).2
    · have hM := mtb_t.mpr hM
      rw [emt] at hM
      rw [eac] at hl
      obtain ⟨-, -, hA2, -⟩ := hDA
      obtain ⟨-, ⟨k1, k2⟩, -⟩ := hA2 M (by rw [emt2]; exact hM)
      have hQ := (DPQ_cg (d := c3) (q := u3) (d3 M (by rw [emt2]; exact hM)) k1 k2 (fun i _ => h4.1 _ _ (decide_eq_false (by omega))) (fun i _ => h5.1 _ _ (decide_eq_false (by omega)))).1 l (by rw [eac2]; exact hl)
      rw [efa2] at hQ
      obtain ⟨op, ho', x1, x2, x3, ⟨x4, x5⟩, x6, x7⟩ := hACD M l hM hl
      have eop : opn u3 (40 * M + l) = op := by
        unfold opn
        rw [x2, ix_n (by omega)]
      unfold ACR
      rw [efa, eop]
      refine ⟨ho', x2, x1, x3, x4, hQ.1, x7, ?_⟩
      rcases hQ.2 with z | z
      · exact Or.inl z
      · obtain ⟨d, p1, p2, p3, p4, p5, p6⟩ := DPO_b (u0 := u3) z (fun A l z1 z2 => (S3 A l (by omega)).1.symm)
        have edp : dpn u3 (40 * M + l) = d := by
          unfold dpn
          rw [p1, ix_n (by omega)]
        refine Or.inr ?_
        rw [edp, eac]
        rw [eac2] at p5 p6
        exact ⟨p1, p2, p3, p4, p5, p6⟩
    · have m1 := mtb_t.mpr m1
      have m2 := mtb_t.mpr m2
      rw [emt] at m1 m2
      rw [efa, efa, eac]
      exact h.2.2.2.2.2.2.1 M M' m1 m2 hlt
  refine ⟨⟨hEC, MMS_of hF hk (by rw [(C _ _ (by omega)).1]; exact h.2.2.1.2.1) (by rw [(S _ _ (by omega)).1]; exact h.2.2.1.2.2.1), hMT⟩, ?_, ?_, ?_, hF, fun p s hp => ?_⟩
  · have hw : wgM u3 96 = wgM u1 96 := wgM_cg (n := 96) (fun M _ => ⟨emt M, fun _ => ⟨eac M, fun l _ => (S _ _ (by omega)).1⟩⟩) 96 (Nat.le_refl _)
    have hle := wM_le (u := u3) (fun M hM l hl => by
      rw [emt] at hM
      rw [eac] at hl
      obtain ⟨op, ho', x1, x2, x3, -, x6, x7⟩ := hACD M l hM hl
      have eop : opn u3 (40 * M + l) = op := by
        unfold opn
        rw [x2, ix_n (by omega)]
      unfold wnt
      rw [eop]
      by_cases e20 : op = 20
      · rw [if_pos e20, if_pos e20]
        obtain ⟨y1, y2, -⟩ := x7.2.2.2.2.1 (by rw [eop]; exact e20)
        exact (hC.1.2.2.2.2.2 _ _ y1 y2).1
      · rw [if_neg e20, if_neg e20]
        split <;> omega) 96
    have := h.2.2.2.2.1.2.2
    unfold WB
    omega
  · intro k hk'
    rw [ecc] at hk'
    rw [(S _ _ (by omega)).2]
    exact (h.2.2.2.2.2.1 k hk').1.2.1
  · intro M l hM hl
    have hM := mtb_t.mpr hM
    rw [emt] at hM
    rw [eac] at hl
    obtain ⟨_, -, -, -, -, ⟨-, x5⟩, -⟩ := hACD M l hM hl
    refine ⟨0, by decide, by rw [efa]; exact x5, fun t _ => ?_⟩
    rw [Nat.zero_testBit]
    exact ⟨fun z => absurd z (by decide), fun z => z.elim⟩
  · obtain ⟨U', m', x1, x2, -⟩ := hrow p s hp
    exact ⟨U', m', x1, x2⟩
end FINS
