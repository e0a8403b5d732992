/-! READING MARKS: one MARK, both side by side -/
section MK2
variable {n i j N t k k0 rc rr U w oc kc mc cc x y : Nat} {c d u c' u' : cS} {K P : Nat → Nat} {V : Nat → Int64} {b : Bool} {nm : Int64}
def MKP (K P : Nat → Nat) (V : Nat → Int64) (N : Nat) (c u : cS) (oc kc rc rr U k w j k0 : Nat) (r : (Int32 × cS) ⊕ (cS ⊕ (cS ⊕ cS))) (q : cS) : Prop := (∃ d j', r = .inl (nI (k0 + 1), d) ∧ j < j' ∧ PSI K P V N d q j' ∧ RWG d q oc kc rc rr U (k + 1) w ∧ sx (qRc rc U) c d ∧ sx (qRr rr) u q) ∨ (∃ z, r = .inr (.inr (.inr z)) ∧ FLR c u z q)
theorem qRc_c (h : sx (qRc rc U) c d) : sx QRc c d := sx_wide h (fun A j z => by
  have := of_decide_eq_false z
  exact decide_eq_false (by omega))
theorem qRr_u (h : sx (qRr rr) u d) : sx QRu u d := sx_wide h (fun A j z => by
  have := of_decide_eq_false z
  exact decide_eq_false (by omega))
theorem mk2_go (hn : 10000 ≤ n) (hP : PSI K P V N c u j) (hV : ENV c u oc kc mc cc) (hG : RWG c u oc kc rc rr U k w) (hk : k < 20) (hr : rc < 2242) (hrr : rr < 1219) (hU : U + k < 4096) (hw : w ≤ 6) (hb : b = true → w < 4) : jw (Option.bind (m2C n (nI rc) (nI w) (bI b, c)) (Sum.elim (bdC n (nI k0)) (fun z5 => some (.inr (.inr (.inr z5)))))) (m2R n (nI rr) (nI (aw w)) (bI b, u)) (MKP K P V N c u oc kc rc rr U k w j k0) := by
  obtain ⟨hS, hM⟩ := hG
  have h222 := hS.2.2.2.2.2.1
  unfold jw
  refine wpb (m2C_go (w := w) (b := b) hn hP hV hS hr hU hw (fun e1 => ?_) (fun e1 e2 => ?_) (fun t e1 e2 e3 => ?_) (fun t e1 e2 e3 e4 => ?_) (fun t dA e1 e2 e3 e4 hA => ?_))
  · exact wpSr (wp_of rfl (m2R_go hn hP hV h222 (by omega) hrr hw (fun _ => Or.inr ⟨_, rfl, FLR_of sx_rfl sx_rfl⟩) (fun z => absurd z e1) (fun _ z => absurd z e1) (fun _ z => absurd z e1) (fun _ z => absurd z e1)))
  · exact wpSr (wp_of rfl (m2R_go hn hP hV h222 (by omega) hrr hw (fun z => absurd e1 z) (fun _ _ => Or.inr ⟨_, rfl, FLR_of sx_rfl atR_sx⟩) (fun _ _ z => by rw [e2] at z; cases z) (fun _ _ z => by rw [e2] at z; cases z) (fun _ _ z => by rw [e2] at z; cases z)))
  · refine wpSr (wp_of rfl (m2R_go hn hP hV h222 (by omega) hrr hw (fun z => absurd e1 z) (fun _ z => by rw [e2] at z; cases z) (fun _ _ _ _ => Or.inr ⟨_, rfl, FLR_of sx_rfl atR_sx⟩) (fun t' _ z z2 => ?_) (fun t' _ z z2 => ?_)))
    · rw [e2] at z
      cases z
      rw [e3] at z2
      cases z2
    · rw [e2] at z
      cases z
      rw [e3] at z2
      cases z2
  · refine wpSr (wp_of rfl (m2R_go hn hP hV h222 (by omega) hrr hw (fun z => absurd e1 z) (fun _ z => by rw [e2] at z; cases z) (fun t' _ z z2 => ?_) (fun _ _ _ _ _ => Or.inr ⟨_, rfl, FLR_of sx_rfl atR_sx⟩) (fun t' _ z _ z3 => ?_)))
    · rw [e2] at z
      cases z
      rw [e3] at z2
      cases z2
    · rw [e2] at z
      cases z
      rw [e4] at z3
      cases z3
  · -- it is a MARK
    refine wpSl ?_
    have hP1 := PSI_s hP (by omega)
    have hj := PSI_lt hP (by omega)
    obtain ⟨a1, a2, a3, a4, a5, a6, a7, a8, a9, a10, a11, a12⟩ := hA
    obtain ⟨cE, hcE⟩ : ∃ cE, cE = pI (pI (pI dA 135 (U + k) (nI t)) 136 (U + k) (if b = true then nM else nI 0)) 145 7 (nI (j + 1)) := ⟨_, rfl⟩
    obtain ⟨uE, huE⟩ : ∃ uE, uE = nwM (atR u (j + 1)) rr k (V j) b := ⟨_, rfl⟩
    have h393 : d_393 n (nI rr) (V j) (bI b) (atR u (j + 1)) = some uE := by
      rw [huE]
      refine e393 hrr hk ?_
      unfold atR
      rw [rI, if_neg (by omega)]
      exact h222
    have cEf : ∀ A l, ¬ (A = 135 ∧ l = U + k) → ¬ (A = 136 ∧ l = U + k) → ¬ (A = 145 ∧ l = 7) → cE.1 A l = dA.1 A l := fun A l z1 z2 z3 => by
      rw [hcE, rI, if_neg z3, rI, if_neg z2, rI, if_neg z1]
    have cEv : ∀ A l, cE.2 A l = dA.2 A l := fun A l => by rw [hcE]; rfl
    have cE135 : cE.1 135 (U + k) = nI t := by
      rw [hcE, rI, if_neg (by omega), rI, if_neg (by omega), rI, if_pos ⟨rfl, rfl⟩]
    have cE136 : cE.1 136 (U + k) = if b = true then nM else nI 0 := by
      rw [hcE, rI, if_neg (by omega), rI, if_pos ⟨rfl, rfl⟩]
    have uEf : ∀ A l, ¬ (A = 174 ∧ l = 67) → ¬ (A = 222 ∧ l = rr) → ¬ ((A = 224 ∨ A = 225) ∧ l = rr * 20 + k) → uE.1 A l = u.1 A l := fun A l z1 z2 z3 => by
      rw [huE]
      unfold nwM
      rw [rI, if_neg z2, rI, if_neg (by omega), rI, if_neg (by omega)]
      show (atR u (j + 1)).1 A l = _
      unfold atR
      rw [rI, if_neg z1]
    have uEv : ∀ A l, ¬ (A = 223 ∧ l = rr * 20 + k) → uE.2 A l = u.2 A l := fun A l z => by
      rw [huE]
      show (pL (atR u (j + 1)) 223 (rr * 20 + k) (V j)).2 A l = _
      rw [rL, if_neg z]
      rfl
    have uE223 : uE.2 223 (rr * 20 + k) = V j := by
      rw [huE]
      show (pL (atR u (j + 1)) 223 (rr * 20 + k) (V j)).2 223 (rr * 20 + k) = _
      rw [rL, if_pos ⟨rfl, rfl⟩]
    have uE224 : uE.1 224 (rr * 20 + k) = bI b := by
      rw [huE]
      unfold nwM
      rw [rI, if_neg (by omega), rI, if_neg (by omega), rI, if_pos ⟨rfl, rfl⟩]
    have uE225 : uE.1 225 (rr * 20 + k) = nI 0 := by
      rw [huE]
      unfold nwM
      rw [rI, if_neg (by omega), rI, if_pos ⟨rfl, rfl⟩]
      rfl
    have uE222 : uE.1 222 rr = nI (k + 1) := by
      rw [huE]
      unfold nwM
      rw [rI, if_pos ⟨rfl, rfl⟩]
    have sE : sx (qRc rc U) c cE := by
      refine sx_trans (sx_wide a12 (fun A l z => ?_)) ⟨fun A l z => ?_, fun A l _ => cEv A l⟩
      · have := of_decide_eq_false z
        exact decide_eq_false (by omega)
      · have := of_decide_eq_false z
        exact cEf A l (by omega) (by omega) (by omega)
    have sU : sx (qRr rr) u uE := by
      refine ⟨fun A l z => ?_, fun A l z => ?_⟩
      · have := of_decide_eq_false z
        exact uEf A l (by omega) (by omega) (by omega)
      · have := of_decide_eq_false z
        exact uEv A l (by omega)
    have hPE : PSI K P V N cE uE (j + 1) := by
      refine ⟨TKR_sx hP.1 sE sU (fun A l z1 z2 => decide_eq_false (by omega)) (fun A l z1 z2 => decide_eq_false (by omega)), hj, ?_, ?_, ?_⟩
      · rw [hcE, rI, if_pos ⟨rfl, rfl⟩]
      · rw [huE]
        unfold nwM
        rw [rI, if_neg (by omega), rI, if_neg (by omega), rI, if_neg (by omega)]
        exact hP1.2.2.2.1
      · rw [uEf _ _ (by omega) (by omega) (by omega)]
        exact hP.2.2.2.2
    have hVE : ENV cE uE oc kc mc cc := ENV_sx hV sE sU (fun A l z => decide_eq_false (by omega)) (fun A l z => decide_eq_false (by omega))
    have hkE : SAMK u uE := SAMK_sx sU (fun A l z1 z2 => decide_eq_false (by omega))
    have b1 := hV.1.1.1
    have b2 := hV.1.2.1
    have hbd := bdy_go (k0 := k0) (b := b) (t := t) (v9 := oI (fO u oc (V j))) (v11 := oI (fK u kc (V j))) hn hU hrr hk hPE cE135 cE136 uE222 uE225 (fun z => ?_) (fun z => ?_)
    rotate_left
    · rcases ENV_t hV e2 with ⟨z1, z2, z3⟩ | ⟨o, z1, z2, z3⟩
      · rw [z2, z3]
        exact ⟨by omega, hVE.2.2 t z1, rfl, rfl⟩
      · omega
    · rcases ENV_t hV e2 with ⟨z1, z2, z3⟩ | ⟨o, z1, z2, z3⟩
      · omega
      · obtain ⟨E, hro⟩ := hVE.2.1.2.2.2 o z1
        have hel : eln uE o = E := by
          unfold eln
          rw [hro.1.2.1, ix_n (by have := hro.1.1.2; omega)]
        refine ⟨o, by omega, z2, by rw [z3]; rfl, ?_, ?_, ?_, ?_⟩
        · rw [hel]
          exact hro.1.1.2
        · rw [hel]
          exact hro.1.2.1
        · rw [hel]
          exact hro.2.1
        · rw [hel]
          exact hro.2.2.2.1
    rw [← hcE]
    obtain ⟨ra, qa, h1, h2, h3⟩ := jw_ex hbd
    refine wp_of h1 (m2R_go hn hP hV h222 (by omega) hrr hw (fun z => absurd e1 z) (fun _ z => by rw [e2] at z; cases z) (fun t' _ z z2 => ?_) (fun t' _ z _ z3 => ?_) (fun t' _ _ _ _ => wpe h393 (wp_of h2 ?_)))
    · rw [e2] at z
      cases z
      rw [e3] at z2
      cases z2
    · rw [e2] at z
      cases z
      rw [e4] at z3
      cases z3
    rcases h3 with ⟨d, j', rfl, g1, g2, g3, g4, g5⟩ | ⟨z, rfl, hf⟩
    rotate_left
    · exact Or.inr ⟨z, rfl, FLR_tr hf (qRc_c sE) (qRr_u sU)⟩
    obtain ⟨w1, w2, w3, w4, w5, w6, w7, w8, w9⟩ := hS
    have sd : sx (qRc rc U) c d := sx_trans sE (sx_wide g4 (fun A l z => by
      have := of_decide_eq_false z
      exact decide_eq_false (by omega)))
    have sq : sx (qRr rr) u qa := sx_trans sU (sx_wide g5 (fun A l z => by
      have := of_decide_eq_false z
      exact decide_eq_false (by omega)))
    have D : ∀ A l, A ≠ 145 → ¬ (A = 136 ∧ l = U + k) → ¬ (139 ≤ A ∧ A ≤ 141 ∧ (U + k) * 4 ≤ l ∧ l < (U + k) * 4 + 4) → d.1 A l = cE.1 A l := fun A l z1 z2 z3 => g4.1 A l (decide_eq_false (by omega))
    have Qv : ∀ l, qa.2 223 l = uE.2 223 l := fun l => g5.2 223 l (decide_eq_false (by omega))
    have hkq : SAMK u qa := SAMK_sx sq (fun A l z1 z2 => decide_eq_false (by omega))
    refine Or.inl ⟨d, j', rfl, by omega, g2, ⟨⟨?_, ?_, ?_, by omega, ?_, ?_, fun _ => ⟨?_, ?_⟩, fun l hl => ?_, fun l hl => ?_⟩, fun l hl => ?_⟩, sd, sq⟩
    · rw [D _ _ (by omega) (by omega) (by omega), cEf _ _ (by omega) (by omega) (by omega)]
      exact a1
    · rw [D _ _ (by omega) (by omega) (by omega), cEf _ _ (by omega) (by omega) (by omega)]
      exact a2
    · rw [D _ _ (by omega) (by omega) (by omega), cEf _ _ (by omega) (by omega) (by omega)]
      exact a3
    · rw [D _ _ (by omega) (by omega) (by omega), cEf _ _ (by omega) (by omega) (by omega)]
      exact a4
    · rw [g5.1 222 rr (decide_eq_false (by omega))]
      exact uE222
    · rw [D _ _ (by omega) (by omega) (by omega), cEf _ _ (by omega) (by omega) (by omega), a6]
      by_cases e : k = 0
      · rw [if_pos e, e]
        rfl
      · rw [if_neg e]
        exact (w7 (by omega)).1
    · rw [D _ _ (by omega) (by omega) (by omega), cEf _ _ (by omega) (by omega) (by omega), a5]
      rfl
    · rw [D _ _ (by omega) (by omega) (by omega), cEf _ _ (by omega) (by omega) (by omega)]
      by_cases e : l = k
      · rw [e, if_neg (by omega)]
        exact a7
      · rw [if_pos (by omega)]
        by_cases e5 : l + 1 = k
        · have := a8 (by omega)
          rw [show U + l = U + k - 1 by omega, show U + k - 1 + 1 = U + k by omega]
          exact this
        · rw [a12.1 138 (U + l) (decide_eq_false (by omega)), w8 l (by omega), if_pos (by omega)]
    · rw [g4.2 134 (U + l) (decide_eq_false (by omega)), cEv, Qv]
      by_cases e : l = k
      · rw [e, uE223]
        exact a9
      · rw [a12.2 134 (U + l) (decide_eq_false (by omega)), uEv _ _ (by omega)]
        exact w9 l (by omega)
    · by_cases e : l = k
      · subst e
        refine ⟨t, b, ?_, ?_, ?_, ?_, hb, g3, ?_, ?_⟩
        · rw [D _ _ (by omega) (by omega) (by omega)]
          exact cE135
        · rw [Qv, uE223, tgt_cg (fun l => (hkq 181 _ (by omega) (by omega)).2) (fun l => (hkq 189 _ (by omega) (by omega)).2)]
          exact e2
        · rw [D _ _ (by omega) (by omega) (by omega), cEf _ _ (by omega) (by omega) (by omega)]
          exact a11
        · rw [g5.1 224 _ (decide_eq_false (by omega))]
          exact uE224
        · unfold dpl at e3 ⊢
          rw [Qv, uE223, hnm_cg (u := u) (fun q hq => by rw [Qv, uEv _ _ (by omega)]), mny_cg (fun l => (hkq 197 _ (by omega) (by omega)).1)]
          exact e3
        · rw [ftW_cg (fun l => (hkq 195 _ (by omega) (by omega)).1)]
          exact e4
      · refine MIN_cg (hM l (by omega)) (fun A q z => ?_) (fun A q z => ?_) hkq
        · rw [D A q (by omega) (by omega) (by omega), cEf A q (by omega) (by omega) (by omega), g4.2 A q (decide_eq_false (by omega)), cEv]
          exact ⟨a12.1 A q (decide_eq_false (by omega)), a12.2 A q (decide_eq_false (by omega))⟩
        · rw [g5.1 A q (decide_eq_false (by omega)), g5.2 A q (decide_eq_false (by omega))]
          exact ⟨uEf A q (by omega) (by omega) (by omega), uEv A q (by omega)⟩
end MK2
