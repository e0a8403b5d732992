/-! READING all CLASSES: both -/
section CLG
variable {n i i0 j N k m b U tot oc kc mc cc : Nat} {c d u v q w c0 u0 : cS} {K P : Nat → Nat} {V : Nat → Int64}
def CLW (K P : Nat → Nat) (V : Nat → Int64) (N : Nat) (c0 u0 : cS) (oc kc mc i0 : Nat) (c u : cS) (i : Nat) : Prop := ∃ cc U tot, CLV K P V N c u oc kc mc cc U tot i ∧ (i = i0 ∨ 1 ≤ cc) ∧ sx QRc c0 c ∧ sx QRu u0 u
theorem cls_st (J : cS → Option ((Int32 × cS) ⊕ (cS ⊕ (cS ⊕ cS)))) (hn : 10000 ≤ n) (h : CLW K P V N c0 u0 oc kc mc i0 c u i) (hK : K i = 202) : (∃ d q i', (∀ Q, wp (J d) Q → wp (clX n J c) Q) ∧ d_403 n (atR u (i + 1)) = some q ∧ i < i' ∧ CLW K P V N c0 u0 oc kc mc i0 d q i') ∨ (∃ z q, clX n J c = some (.inr (.inr (.inr z))) ∧ d_403 n (atR u (i + 1)) = some q ∧ FLR c u z q) := by
  obtain ⟨cc, U, tot, h1, h2, h3, h4⟩ := h
  obtain ⟨-, -, -, ⟨q1, q2, q3, q4⟩, -, -, -, q10, -⟩ := id h1
  rcases chd_go (n := n) (k := cc) (U := U) hn h1.1 hK (CLV_N h1) (CLV_V h1) q4 q1 q2 q3 (fun z => q10 _ (by omega) (by unfold srt; rw [if_pos (by omega)])) with ⟨d, s, x1, x2, nm, hk, hnm, hH⟩ | ⟨z, s, x1, x2, x3⟩
  rotate_left
  · refine Or.inr ⟨z, s, ?_, x2, x3⟩
    unfold clX
    exact eq_wp (wpe x1 (wpSr rfl))
  obtain ⟨i', m, hi, h8, hC, sc, su⟩ := CLV_h h1 hk hnm hH
  obtain ⟨r, s2, y1, y2, y3⟩ := jw_ex (mem_lps (n := n) (c0 := c) (u0 := u) hn ⟨U + m, tot, hC, h8, sc, su⟩)
  have hX : ∀ {Q : ((Int32 × cS) ⊕ (cS ⊕ (cS ⊕ cS))) → Prop}, wp (Sum.elim (fun x33 : cS =>
          Option.bind (d_257 n 125 x33) (Sum.elim (fun r34 =>
          J r34)
          (fun z35 => some (.inr (.inr (.inr z35))))))
        (fun x39 : (cS) ⊕ cS =>
          some (.inr (.inr x39))) r) Q → wp (clX n J c) Q := fun {Q} h => by
    unfold clX
    exact wpe x1 (wpSl (wpe y1 h))
  have hY : ∀ {s' : cS}, d_380 n 125 s2 = some s' → d_403 n (atR u (i + 1)) = some s' := fun {s'} h => eq_wp (x2 _ (by
    unfold kR6
    exact wpe y2 (wpe h rfl)))
  rcases y3 with ⟨d2, i2, rfl, z1, U2, tot2, zC, z8, zs, zu⟩ | ⟨z, rfl, hf⟩
  rotate_left
  · exact Or.inr ⟨z, s2, eq_wp (hX rfl), hY (e380w hf.2.2.1), hf⟩
  rcases exp_s (n := n) (b := 125) zC.1 (by decide) (by decide) with ⟨t1, t2, t3⟩ | ⟨t1, t2⟩
  · have hk2 : K i2 ≠ 0 := fun z => by
      have h257 := e257 (n := n) (b := 125) zC.1 (by decide)
      rw [if_neg (by omega)] at h257
      rw [t1] at h257
      cases h257
    exact Or.inl ⟨atC d2 (i2 + 1), atR s2 (i2 + 1), i2 + 1, fun Q h => hX (wpe t1 (wpSl h)), hY t2, by omega, cc + 1, U2, tot2, CLV_at zC hk2, Or.inr (by omega), sx_trans h3 (sx_trans zs atC_sx), sx_trans h4 (sx_trans zu atR_sx)⟩
  · refine Or.inr ⟨flC d2 2 (nI (P i2)), flt s2 2 (nI (P i2)), eq_wp (hX ?_), hY t2, FLR_of zs zu⟩
    rw [Sum.elim_inl]
    exact wpe t1 (wpSr rfl)
theorem see5 (h : PSI K P V N w v i) : (v.1 178 i = 5 ↔ K i = 0) := by
  have ht := (h.1.2.2.1 i h.2.1).2.2.2.2
  unfold TKO at ht
  rcases ht with ⟨t1, -, t2⟩ | ⟨t1, t2, -⟩ | ⟨t1, t2, -⟩ | ⟨t1, t2, -⟩ | ⟨t1, t3, t2, -⟩ | ⟨t1, t3, t2, -⟩
  · rw [t2]
    exact ⟨fun _ => t1, fun _ => rfl⟩
  · rw [t2]
    exact ⟨fun z => absurd z (by decide), fun z => by omega⟩
  · rw [t2]
    exact ⟨fun z => absurd z (by decide), fun z => by omega⟩
  · rw [t2]
    exact ⟨fun z => absurd z (by decide), fun z => by omega⟩
  · rw [t2]
    exact ⟨fun z => absurd z (by decide), fun z => by omega⟩
  · rw [t2]
    exact ⟨fun z => absurd z (by decide), fun z => by omega⟩
def CLX (K P : Nat → Nat) (V : Nat → Int64) (N : Nat) (c0 u0 : cS) (oc kc mc : Nat) (r : cS ⊕ cS) (q : cS) : Prop := (∃ d i cc U tot, r = .inl d ∧ K i = 0 ∧ 1 ≤ cc ∧ CLV K P V N d q oc kc mc cc U tot i ∧ sx QRc c0 d ∧ sx QRu u0 q) ∨ (∃ z, r = .inr z ∧ FLR c0 u0 z q)
theorem cll_go (hn : 10000 ≤ n) (h : CLV K P V N c u oc kc mc 0 U 0 i) (sc : sx QRc c0 c) (su : sx QRu u0 u) : jw (d_45 n c) (clR n u) (CLX K P V N c0 u0 oc kc mc) := by
  have hP := h.1
  have hkK := PSI_K hP
  have h100 := e100 (n := n) (b := 2) hP (by decide)
  rw [d45_s]
  by_cases e : K i = 202
  rotate_left
  · rw [if_neg (by omega)] at h100
    have hw : whl (lpJ n 202 (clX n)) n (0, c) = some (.inl c) := by
      obtain ⟨a, ha⟩ : ∃ a, n = a + 1 := ⟨n - 1, by omega⟩
      have h2 : whl (lpJ n 202 (clX n)) (a + 1) (0, c) = some (.inl c) := whl_out (by
        unfold lpJ
        dsimp only
        exact eq_wp (wpf (by decide) (wpe (e43 hP) (wpf (fun z => e ((nI_eq (by omega) (by decide)).mp (show _ = nI 202 from z))) rfl))))
      rw [← ha] at h2
      exact h2
    have f1 := (flt_at (u := u) (a := 2) (f := nI (P i))).1
    refine wp_of (a := .inr (flC c 2 (nI (P i)))) ?_ (wp_of (a := flt u 2 (nI (P i))) ?_ (Or.inr ⟨_, rfl, FLR_of sc su⟩))
    · refine eq_wp (wpe hw (wpSl (wpj (wpj (wpt ?_ (wpe (e42 hP) (wpe e41 (wpSr rfl))))))))
      rw [h.2.2.1.2.2.2.2.1]
      rfl
    · unfold clR
      exact eq_wp (wpj (wpt hP.2.2.2.2 (wpe h100 (wpt rfl (wpe (e103 hP) (wpe (lpR_ww (by omega) f1) (wpj (wpf (ne13 f1) rfl))))))))
  rw [if_pos (by omega)] at h100
  have hL : jw (whl (lpJ n 202 (clX n)) n (0, c)) (whl (lpR n 2 (d_403 n)) n u) _ := stm_lq (b := 2) (I := CLW K P V N c0 u0 oc kc mc i) (c0 := c0) (u0 := u0) hn (by decide) (fun c u i ⟨cc, U, tot, a1, a2, a3, a4⟩ => ⟨a1.1, a3, a4⟩) (fun c u i' J hI hk => cls_st J hn hI hk) ⟨0, U, 0, h, Or.inl rfl, sc, su⟩
  obtain ⟨r, s, y1, y2, y3⟩ := jw_ex hL
  have hY : ∀ {Q : cS → Prop}, wp (if (s.1 174 13) = 0 then
                if ib (s.1 174 67) 4001 then
                if (s.1 178 (ix (s.1 174 67))) = 5 then
                  some s
                else
                  Option.bind (d_103 n s) (fun r39 =>
                  some r39)
                else none
              else
                some s) Q → wp (clR n u) Q := fun {Q} h => by
    unfold clR
    exact wpj (wpt hP.2.2.2.2 (wpe h100 (wpf (show ¬ (1 : Int32) = 0 by decide) (wpe y2 (wpj h)))))
  rcases y3 with ⟨d, i', rfl, z1, ⟨cc, U', tot', a1, a2, a3, a4⟩, z3⟩ | ⟨z, rfl, hf⟩
  rotate_left
  · exact wpe y1 (wp_of rfl (hY (wpf (ne13 hf.2.2.1) (wp_of rfl (Or.inr ⟨z, rfl, hf⟩)))))
  have hcc : 1 ≤ cc := by
    rcases a2 with z | z
    · rw [z] at z3
      omega
    · exact z
  have hkK2 := PSI_K a1.1
  have h12 := a1.2.2.1.2.2.2.1
  have h710 : ¬ d.1 7 10 = 0 := fun z => by
    rw [a1.2.2.1.2.2.2.2.1] at z
    have := (nI_eq (by omega) (by decide)).mp (show _ = nI 0 from z)
    omega
  have hs5 := see5 a1.1
  have s67 := a1.1.2.2.2.1
  have hii : ib (nI i') 4001 := ib_n (by omega) (by decide)
  by_cases e0 : K i' = 0
  · refine wpe y1 (wpSl (wpj (wpj (wpf h710 (wpe (e43 a1.1) (wpt (by rw [e0]; rfl) (wp_of rfl (hY ?_))))))))
    rw [s67, show ix (nI i') = i' from ix_n (by omega)]
    exact wpt a1.1.2.2.2.2 (wpt hii (wpt (hs5.mpr e0) (wp_of rfl (Or.inl ⟨d, i', cc, U', tot', rfl, e0, hcc, a1, a3, a4⟩))))
  · refine wpe y1 (wpSl (wpj (wpj (wpf h710 (wpe (e43 a1.1) (wpf (fun z => e0 ((nI_eq (by omega) (by decide)).mp (show _ = nI 0 from z))) (wpe (e42 a1.1) (wpe e41 (wpSr (wp_of rfl (hY ?_)))))))))))
    rw [s67, show ix (nI i') = i' from ix_n (by omega)]
    exact wpt a1.1.2.2.2.2 (wpt hii (wpf (fun z => e0 (hs5.mp z)) (wpe (e103 a1.1) (wp_of rfl (Or.inr ⟨_, rfl, FLR_of a3 a4⟩)))))
end CLG
