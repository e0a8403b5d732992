/-! READING a METHOD: whole -/
section MTH
variable {n i j N k q M p0 t m L U U0 tot W0 oc kc mc : Nat} {c d u w v c0 u0 c' u' : cS} {K P : Nat → Nat} {V : Nat → Int64}
def mtJ (n : Nat) (J : cS → Option ((Int32 × cS) ⊕ (cS ⊕ (cS ⊕ cS)))) (c : cS) : Option ((Int32 × cS) ⊕ (cS ⊕ (cS ⊕ cS))) :=
                Option.bind (d_271 n c) (Sum.elim (fun r15 =>
                Option.bind (whl (alC n) n (0, r15))
                (Sum.elim (fun x26 : cS =>
                  Option.bind (d_257 n 125 x26) (Sum.elim (fun r27 =>
                  J r27)
                  (fun z28 => some (.inr (.inr (.inr z28))))))
                (fun x29 : (cS) ⊕ cS =>
                  some (.inr (.inr x29)))))
                (fun z16 => some (.inr (.inr (.inr z16)))))
/-- what the reading of METHOD M of CLASS k may change -/
def qTc (k M p0 U tot A l : Nat) : Bool := decide ((A = 145 ∧ (l = 7 ∨ l = 9)) ∨ (A = 17 ∧ l = k) ∨ ((115 ≤ A ∧ A ≤ 120 ∧ A ≠ 118) ∧ l = M) ∨ (A = 118 ∧ M * 8 ≤ l ∧ l < M * 8 + 8) ∨ (A = 114 ∧ l = 7) ∨ (121 ≤ A ∧ A ≤ 132 ∧ tot ≤ l) ∨ (A = 133 ∧ (l = 11 ∨ l = 13)) ∨ ((A = 142 ∨ A = 143 ∨ A = 144) ∧ ((p0 ≤ l ∧ l ≤ p0 + 4) ∨ 1218 + tot ≤ l)) ∨ (134 ≤ A ∧ A ≤ 138 ∧ U ≤ l) ∨ (139 ≤ A ∧ A ≤ 141 ∧ U * 4 ≤ l))
def qTu (k M p0 A l : Nat) : Bool := decide ((A = 174 ∧ (l = 67 ∨ l = 68)) ∨ (A = 203 ∧ l = k) ∨ ((A = 206 ∨ A = 207 ∨ A = 208 ∨ A = 210) ∧ l = M) ∨ (A = 209 ∧ 8 * M ≤ l ∧ l < 8 * M + 8) ∨ (211 ≤ A ∧ A ≤ 219 ∧ 40 * M ≤ l ∧ l < 40 * M + 40) ∨ ((A = 220 ∨ A = 221) ∧ 160 * M ≤ l ∧ l < 160 * M + 160) ∨ (A = 222 ∧ ((p0 ≤ l ∧ l ≤ p0 + 4) ∨ l = 1218)) ∨ (223 ≤ A ∧ A ≤ 225 ∧ ((p0 * 20 ≤ l ∧ l < (p0 + 5) * 20) ∨ 1218 * 20 ≤ l)) ∨ (226 ≤ A ∧ A ≤ 228 ∧ ((p0 * 80 ≤ l ∧ l < (p0 + 5) * 80) ∨ 1218 * 80 ≤ l)))
theorem qTc_c (h : sx (qTc k M p0 U tot) c d) : sx QRc c d := sx_wide h (fun A j z => by
  have := of_decide_eq_false z
  exact decide_eq_false (by omega))
theorem qTu_u (h : sx (qTu k M p0) u d) : sx QRu u d := sx_wide h (fun A j z => by
  have := of_decide_eq_false z
  exact decide_eq_false (by omega))
/-- METHOD M as it is read -/
def MTD (K P : Nat → Nat) (V : Nat → Int64) (N : Nat) (d v : cS) (M p0 a0 t L na oc kc U : Nat) : Prop := d.2 115 M = v.2 206 M ∧ (t ≤ 4 ∧ d.1 116 M = nI t ∧ v.1 207 M = nI t) ∧ (t ≤ L ∧ L ≤ 8 ∧ d.1 117 M = nI L ∧ v.1 208 M = nI L ∧ ∀ l, l < L → d.2 118 (M * 8 + l) = v.2 209 (8 * M + l)) ∧ (1 ≤ na ∧ na ≤ 40 ∧ d.1 120 M = nI na ∧ v.1 210 M = nI na ∧ d.1 119 M = nI a0 ∧ a0 + na ≤ 1000) ∧ (∀ l, l < na → ACX K P V N d v (a0 + l) (40 * M + l) L U oc) ∧ (∃ U' m', U' + m' ≤ U ∧ RWR d v oc kc p0 U' m' 2) ∧ (∀ j, j < t → ∃ U' m', U' + m' ≤ U ∧ RWR d v oc kc (p0 + 1 + j) U' m' 3) ∧ LBU v M na
def MTP (K P : Nat → Nat) (V : Nat → Int64) (N : Nat) (c u : cS) (oc kc mc k q M p0 U0 tot W0 i : Nat) (d v : cS) : Prop := ∃ i' t L na U, i < i' ∧ q < 8 ∧ PSI K P V N d v i' ∧ 2 * U ≤ i' ∧ U0 ≤ U ∧ 4 * (tot + na) ≤ P i' ∧ 2 * (W0 + wgI v M na) ≤ P i' ∧ MTD K P V N d v M p0 tot t L na oc kc U ∧ d.1 145 8 = nI k ∧ d.1 17 k = nI (q + 1) ∧ v.1 203 k = nI (q + 1) ∧ d.1 114 7 = nI (tot + na) ∧ (d.1 133 11 = nI U ∧ d.1 133 12 = nM ∧ d.1 133 13 = nI U) ∧ ENV d v oc kc mc 0 ∧ (∀ r, p0 ≤ r → r ≤ p0 + 4 → ¬ (p0 ≤ r ∧ r < p0 + 1 + t) → d.1 144 r = nI 0) ∧ (∀ a, tot + na ≤ a → a < 1024 → d.1 144 (1218 + a) = nI 0) ∧ sx (qTc k M p0 U0 tot) c d ∧ sx (qTu k M p0) u v
theorem qTc_h (A l : Nat) (z : qTc k M p0 U tot A l = false) : qWh k M p0 U A l = false := by
  have := of_decide_eq_false z
  exact decide_eq_false (by omega)
theorem qTc_a {U1 : Nat} (hU : U ≤ U1) (A l : Nat) (z : qTc k M p0 U tot A l = false) : qAc M tot U1 A l = false := by
  have := of_decide_eq_false z
  exact decide_eq_false (by omega)
theorem qTu_h (A l : Nat) (z : qTu k M p0 A l = false) : qWg k M p0 A l = false := by
  have := of_decide_eq_false z
  exact decide_eq_false (by omega)
theorem qTu_a (A l : Nat) (z : qTu k M p0 A l = false) : qAu M A l = false := by
  have := of_decide_eq_false z
  exact decide_eq_false (by omega)
set_option maxHeartbeats 8000000 in
theorem mth_go (J : cS → Option ((Int32 × cS) ⊕ (cS ⊕ (cS ⊕ cS)))) (hn : 10000 ≤ n) (hk : k < 12) (hq : q ≤ 8) (hM : M = 8 * k + q) (hp : p0 = 100 * k + 20 + 10 * q) (hP : PSI K P V N c u i) (hK : K i = 204) (h8 : c.1 145 8 = nI k) (h17 : c.1 17 k = nI q) (h203 : u.1 203 k = nI q) (h115 : ∀ j, j < q → c.2 115 (k * 8 + j) = u.2 206 (8 * k + j)) (h7 : c.1 114 7 = nI tot) (hV : ENV c u oc kc mc 0) (hU : 2 * U ≤ i) (h11 : c.1 133 11 = nI U) (h12 : c.1 133 12 = nM) (h13 : c.1 133 13 = nI U) (h144 : q < 8 → ∀ r, p0 ≤ r → r ≤ p0 + 4 → c.1 144 r = nI 0) (hT : ∀ a, tot ≤ a → a < 1024 → c.1 144 (1218 + a) = nI 0) (h4 : 4 * tot ≤ P i) (hW : 2 * W0 ≤ P i) : (∃ d v, (∀ Q, wp (J d) Q → wp (mtJ n J c) Q) ∧ d_405 n (nI k) (atR u (i + 1)) = some v ∧ MTP K P V N c u oc kc mc k q M p0 U tot W0 i d v) ∨ (∃ z v, mtJ n J c = some (.inr (.inr (.inr z))) ∧ d_405 n (nI k) (atR u (i + 1)) = some v ∧ FLR c u z v) := by
  rcases mhd_go (n := n) (U := U) (tot := tot) hn hk hq hM hp hP hK h8 h17 h203 h115 h7 hV hU h11 h12 h13 h144 with ⟨d0, v0, x1, x2, hq8, i1, t, U1, a1, a2, a3, a4, ⟨a5, a6⟩, ⟨b1, b2, b3, b4, b5⟩, b6, b7, ⟨c1, c2, c3⟩, e1, e2, e3, ⟨f1, f2, f3, f4, f5, f6, f7⟩, g1, g2⟩ | ⟨z, s, x1, x2, x3⟩
  rotate_left
  · refine Or.inr ⟨z, s, ?_, x2, x3⟩
    unfold mtJ
    exact eq_wp (wpe x1 (wpSr rfl))
  have hM9 : M < 96 := by omega
  have hi1N := a2.2.1
  have hPi := TKR_le hP.1 (show i ≤ i1 by omega) hi1N
  have hkc := b7.1.2.1
  have hAB : MAB K P V N d0 v0 k M tot t U1 W0 oc kc mc i1 0 d0 v0 := by
    refine ⟨t, U1, Nat.le_refl _, fun l hl => absurd hl (Nat.not_lt_zero _), a2, a3, Nat.le_refl _, by omega, ?_, ⟨⟨a5, a6⟩, ⟨by omega, f3, f4, f2, f7⟩, ⟨by omega, b3, b5, b6, c1, c2, c3⟩, b7, fun l hl => absurd hl (Nat.not_lt_zero _), fun a z1 z2 => ?_⟩, sx_rfl, sx_rfl⟩
    · show 2 * (W0 + 0) ≤ P i1
      omega
    · rw [g1.1 _ _ (decide_eq_false (by omega))]
      exact hT a (by omega) z2
  obtain ⟨r, s, y1, y2, y3⟩ := jw_ex (act_lp hn hM9 hAB)
  have hX : ∀ {Q : ((Int32 × cS) ⊕ (cS ⊕ (cS ⊕ cS))) → Prop}, wp (Sum.elim (fun x26 : cS =>
                  Option.bind (d_257 n 125 x26) (Sum.elim (fun r27 =>
                  J r27)
                  (fun z28 => some (.inr (.inr (.inr z28))))))
                (fun x29 : (cS) ⊕ cS =>
                  some (.inr (.inr x29))) r) Q → wp (mtJ n J c) Q := fun {Q} h => by
    unfold mtJ
    exact wpe x1 (wpSl (wpe y1 h))
  have hY : d_405 n (nI k) (atR u (i + 1)) = some s := eq_wp (x2 _ (by
    unfold mR8
    exact wpe y2 rfl))
  rcases y3 with ⟨d, v, i2, na, rfl, rfl, z1, z2, z3, L, U2, l0, lbu, m1, m2, m3, m4, m5, ⟨⟨n1, n2⟩, ⟨n3, n4, n5, n6, n7⟩, ⟨o1, o2, o3, o4, o5, o6, o7⟩, o8, o9, o10⟩, o11, o12⟩ | ⟨z, rfl, hf⟩
  rotate_left
  · exact Or.inr ⟨z, s, eq_wp (hX rfl), hY, FLR_tr hf (qWh_c g1) (qWg_u g2)⟩
  have h257 := e257 (n := n) (b := 125) m1 (by decide)
  rw [if_pos z2] at h257
  have hP2 := PSI_s m1 (by omega)
  have hlt := PSI_lt m1 (by omega)
  have hkK := PSI_K m1
  have hPn := TKR_le m1.1 (show i2 ≤ i2 + 1 by omega) hlt
  have D : ∀ A l, qAc M tot U1 A l = false → d.1 A l = d0.1 A l ∧ d.2 A l = d0.2 A l := fun A l z => ⟨o11.1 _ _ z, o11.2 _ _ z⟩
  have S : ∀ A l, qAu M A l = false → v.1 A l = v0.1 A l ∧ v.2 A l = v0.2 A l := fun A l z => ⟨o12.1 _ _ z, o12.2 _ _ z⟩
  have df : ∀ A l, ¬ (A = 145 ∧ l = 7) → (atC d (i2 + 1)).1 A l = d.1 A l := fun A l z => by
    unfold atC
    rw [rI, if_neg z]
  have vf : ∀ A l, ¬ (A = 174 ∧ l = 67) → (atR v (i2 + 1)).1 A l = v.1 A l := fun A l z => by
    unfold atR
    rw [rI, if_neg z]
  have hwg : wgI (atR v (i2 + 1)) M na = wgI v M na := wgI_cg (fun l _ => vf _ _ (by omega)) na (Nat.le_refl _)
  have hRow : ∀ {r U' m' w' : Nat}, p0 ≤ r → r ≤ p0 + 4 → U' + m' ≤ U1 → RWR d0 v0 oc kc r U' m' w' → RWR (atC d (i2 + 1)) (atR v (i2 + 1)) oc kc r U' m' w' := fun {r U' m' w'} r1 r2 r3 h => by
    refine RWR_k h (ENB_of b7) (fun A l z => ?_) (fun A l z => ?_) (fun A l z1 z2 z => ?_)
    · unfold rcR at z
      rw [df _ _ (by omega)]
      exact D _ _ (decide_eq_false (by omega))
    · unfold ruR at z
      rw [vf _ _ (by omega)]
      exact S _ _ (decide_eq_false (by omega))
    · rw [vf _ _ (by omega)]
      exact S _ _ (decide_eq_false (by omega))
  refine Or.inl ⟨atC d (i2 + 1), _, fun Q h => hX (wpe h257 (wpSl h)), hY, i2 + 1, t, L, na, U2, by omega, hq8, hP2, by omega, by omega, by omega, by rw [hwg]; omega, ⟨?_, ⟨b1, ?_, ?_⟩, ⟨l0, o1, ?_, ?_, fun l hl => o4 l hl⟩, ⟨z3, n3, ?_, ?_, ?_, by omega⟩, fun l hl => ?_, ?_, fun l hl => ?_, lbu⟩, ?_, ?_, ?_, ?_, ⟨?_, ?_, ?_⟩, ?_, fun r r1 r2 r3 => ?_, fun a z1 z2 => ?_, ?_, ?_⟩
  · show d.2 115 M = v.2 206 M
    rw [(D _ _ (decide_eq_false (by omega))).2, (S _ _ (decide_eq_false (by omega))).2]
    exact f1
  · rw [df _ _ (by omega), (D _ _ (decide_eq_false (by omega))).1]
    exact b2
  · rw [vf _ _ (by omega), (S _ _ (decide_eq_false (by omega))).1]
    exact b4
  · rw [df _ _ (by omega)]
    exact o2
  · rw [vf _ _ (by omega)]
    exact o3
  · rw [df _ _ (by omega)]
    exact n4
  · rw [vf _ _ (by omega)]
    exact n5
  · rw [df _ _ (by omega)]
    exact n6
  · exact ACX_cg (o9 l hl) (Nat.le_refl _) (Nat.le_refl _) (fun A l' z => ⟨df _ _ (by unfold acR mkR1 at z; omega), rfl⟩) (fun A l' z => ⟨vf _ _ (by unfold auR at z; omega), rfl⟩)
  · obtain ⟨U', m', r1, r2⟩ := e2
    exact ⟨U', m', by omega, hRow (by omega) (by omega) r1 r2⟩
  · obtain ⟨U', m', r1, r2⟩ := e1 l hl
    exact ⟨U', m', by omega, hRow (by omega) (by omega) r1 r2⟩
  · rw [df _ _ (by omega)]
    exact n1
  · rw [df _ _ (by omega), (D _ _ (decide_eq_false (by omega))).1]
    exact f5
  · rw [vf _ _ (by omega), (S _ _ (decide_eq_false (by omega))).1]
    exact f6
  · rw [df _ _ (by omega)]
    exact n7
  · rw [df _ _ (by omega)]
    exact o5
  · rw [df _ _ (by omega)]
    exact o6
  · rw [df _ _ (by omega)]
    exact o7
  · exact ENV_k o8 (fun A l z => ⟨df _ _ (by unfold kcR kA at z; omega), rfl⟩) (fun A l z => ⟨vf _ _ (by unfold kuR at z; omega), rfl⟩)
  · rw [df _ _ (by omega), (D _ _ (decide_eq_false (by omega))).1]
    exact e3 r r1 r2 r3
  · rw [df _ _ (by omega)]
    exact o10 a z1 z2
  · exact sx_pI (sx_trans (sx_wide g1 qTc_h) (sx_wide o11 (qTc_a (by omega)))) (decide_eq_true (by omega))
  · exact sx_pI (sx_trans (sx_wide g2 qTu_h) (sx_wide o12 qTu_a)) (decide_eq_true (by omega))
end MTH
