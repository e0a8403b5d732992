/-! READING the PAIRS of a MARK, whole -/
section KND
variable {n i N x y k p l : Nat} {c d u w c' u' : cS} {K P : Nat → Nat} {V : Nat → Int64}
def kdR (n : Nat) (v20 v11 v5 : Int32) (r18 : cS) : Option cS :=
                      Option.bind (d_379 n 40 r18) (fun r22 =>
                      jn (fun p23 : cS =>
                        Option.bind (whl (mlR n v20 v11 v5) n (0, p23))
                        (fun x49 : cS =>
                          some x49))
                      (fun j338 =>
                      if r22.1 = 0 then
                        j338 r22.2
                      else
                        Option.bind (d_398 n v20 v11 r22.2) (fun r50 =>
                        j338 r50)))
def tmC (n : Nat) (a1 : Int32) (k2 : Nat) (v3 : Int32) (p6 : cS) : Option (cS ⊕ cS) :=
    Option.bind (whl (mlC n a1 k2 v3) n (0, p6))
    (Sum.elim (fun x16 : cS =>
      some (.inl x16))
    (fun x17 : (cS) ⊕ cS =>
      some x17))
def tmR (n : Nat) (v20 v11 v5 : Int32) (p23 : cS) : Option cS :=
                        Option.bind (whl (mlR n v20 v11 v5) n (0, p23))
                        (fun x49 : cS =>
                          some x49)
theorem d277_s {a1 : Int32} : d_277 n a1 k c = if ib ((c.1 145 7) - 1) 4001 then
  lt ((c.1 4 (ix ((c.1 145 7) - 1))) : Int32) (fun v3 =>
  Option.bind (d_258 n 40 c) (fun r5 =>
  jn (tmC n a1 k v3)
  (fun j155 =>
  if r5.1 = 0 then
    j155 r5.2
  else
    Option.bind (whl (prC n a1 k) n (1, 0, r5.2))
    (Sum.elim (fun x49 : cS =>
      Option.bind (d_257 n 41 x49) (Sum.elim (fun r50 =>
      j155 r50)
      (fun z51 => some (.inr z51))))
    (fun x52 : (cS) ⊕ cS =>
      some x52)))))
  else none := rfl
def KDP (K P : Nat → Nat) (V : Nat → Int64) (N : Nat) (c u : cS) (x y k i : Nat) (r : cS ⊕ cS) (q : cS) : Prop := (∃ d j p, r = .inl d ∧ i ≤ j ∧ PSI K P V N d q j ∧ PRD d q x y k p ∧ (∀ j, j < kn q k → msg q y k p j = true) ∧ sx (qMPc x) c d ∧ sx (qMPu y) u q) ∨ (∃ z, r = .inr z ∧ FLR c u z q)
theorem ml_w {v11 v20 v5 : Int32} (hn : 1000 ≤ n) (hk : ib v11 12) (h13 : u.1 174 13 = nI 1) : whl (mlR n v20 v11 v5) n (0, u) = some u := by
  rw [show n = (n - 1) + 1 by omega]
  refine whl_out (eq_wp ?_)
  unfold mlR
  dsimp only
  refine wpt hk ?_
  by_cases z : u.1 190 (ix v11) ≤ 0
  · exact wpt z rfl
  · exact wpf z (wpf (by rw [h13]; decide) rfl)
theorem tl_go {j : Nat} (hn : 1000 ≤ n) (hx : x < 4096) (hy : y < 24380) (hk : k < 12) (hK : RK d w k) (hP : PSI K P V N d w j) (hD : PRD d w x y k p) (hij : i ≤ j) (sc : sx (qMPc x) c d) (su : sx (qMPu y) u w) (hl : l ≤ 4000) (h9 : w.1 179 l = nI (P l)) : jw (tmC n (nI x) k (nI (P l)) d) (tmR n (nI y) (nI k) (nI l) w) (KDP K P V N c u x y k i) := by
  obtain ⟨a, ha, ha2⟩ := wp_ex (ml_c (v3 := nI (P l)) hn hx hK hD)
  obtain ⟨b, hb, hb2⟩ := wp_ex (ml_r hn hy hk hK hD hP.2.2.2.2 hl)
  rw [h9] at hb2
  have hR : tmR n (nI y) (nI k) (nI l) w = some b := by
    unfold tmR
    rw [hb]
    rfl
  rcases ha2 with ⟨rfl, ha2⟩ | ⟨rfl, j1, ha2, ha3⟩
  · rcases hb2 with ⟨rfl, hb2⟩ | ⟨-, j2, hb2, hb3⟩
    · refine jw_of (a := .inl d) (b := b) ?_ hR (Or.inl ⟨d, j, p, rfl, hij, hP, hD, ha2, sc, su⟩)
      unfold tmC
      rw [ha]
      rfl
    · rw [ha2 j2 hb2] at hb3
      cases hb3
  · rcases hb2 with ⟨-, hb2⟩ | ⟨rfl, -⟩
    · rw [hb2 j1 ha2] at ha3
      cases ha3
    · refine jw_of (a := .inr (flC d 7 (nI (P l)))) ?_ hR (Or.inr ⟨_, rfl, FLR_of (qMPc_c sc) (qMPu_u su)⟩)
      unfold tmC
      rw [ha]
      rfl
theorem knd_go (hn : 10000 ≤ n) (hx : x < 4096) (hy : y < 24380) (hk : k < 12) (hK : RK c u k) (h : PSI K P V N c u (l + 1)) (hD : PRD c u x y k 0) : jw (d_277 n (nI x) k c) (kdR n (nI y) (nI k) (nI l) u) (KDP K P V N c u x y k (l + 1)) := by
  have hkK := PSI_K h
  have c4 : c.1 4 l = nI (P l) := (h.1.2.2.1 l (by have := h.2.1; omega)).2.1
  have u9 : u.1 179 l = nI (P l) := (h.1.2.2.1 l (by have := h.2.1; omega)).2.2.1
  have hik : ib (nI k) 12 := ib_n hk (by decide)
  have h258 := e258 (n := n) (b := 40) h (by decide)
  have h379 := e379 (n := n) (b := 40) h (by decide) (by decide)
  rw [d277_s, h.2.2.1, show nI (l + 1) - 1 = nI l by rw [← nI_1]; simp, ix_n (show l < 2147483648 by omega), c4]
  rw [if_pos (show ib (nI l) 4001 from ib_n (by omega) (by decide))]
  show jw (Option.bind (d_258 n 40 c) _) (Option.bind (d_379 n 40 u) _) _
  by_cases e : K (l + 1) = 40
  · rw [if_pos e] at h258 h379
    have hP1 := PSI_s h (by omega)
    have hi := PSI_lt h (by omega)
    rw [show d_258 n 40 c = some (1, atC c (l + 1 + 1)) from h258, show d_379 n 40 u = some (1, atR u (l + 1 + 1)) from h379]
    show jw (Option.bind (whl (prC n (nI x) k) n (1, 0, atC c (l + 1 + 1))) _) (Option.bind (d_398 n (nI y) (nI k) (atR u (l + 1 + 1))) (fun r50 => tmR n (nI y) (nI k) (nI l) r50)) _
    rw [d398_s, Option.bind_assoc]
    have C : ∀ A j, A ≠ 145 → (atC c (l + 1 + 1)).1 A j = c.1 A j := fun A j z => by
      unfold atC
      rw [rI, if_neg (by omega)]
    have U : ∀ A j, A ≠ 174 → (atR u (l + 1 + 1)).1 A j = u.1 A j := fun A j z => by
      unfold atR
      rw [rI, if_neg (by omega)]
    have hK1 : RK (atC c (l + 1 + 1)) (atR u (l + 1 + 1)) k := RK_cg hK (fun A j z1 z2 => ⟨C _ _ (by unfold kA at *; omega), rfl⟩) (fun A j z1 z2 => ⟨U _ _ (by omega), rfl⟩)
    have sc1 : sx (qMPc x) c (atC c (l + 1 + 1)) := sx_pI sx_rfl (decide_eq_true (by omega))
    have su1 : sx (qMPu y) u (atR u (l + 1 + 1)) := sx_pI sx_rfl (decide_eq_true (by omega))
    have hwr : ∀ {z q : cS}, FLR c u z q → jw (some (.inr z) : Option (cS ⊕ cS)) (tmR n (nI y) (nI k) (nI l) q) (KDP K P V N c u x y k (l + 1)) := fun {z q} hf => by
      refine jw_of (a := .inr z) (b := q) rfl ?_ (Or.inr ⟨z, rfl, hf⟩)
      unfold tmR
      rw [ml_w (by omega) hik hf.2.2.1]
      rfl
    refine jwb (pr_lp hn hx hy hk hK1 hP1 (PRD_at hD)) (fun r b hrb => ?_)
    rcases hrb with ⟨d, q, j, p, rfl, rfl, j1, j2, j3, j4, j5⟩ | ⟨z, q, rfl, hb, hf⟩
    · have h257 := e257 (n := n) (b := 41) j2 (by decide)
      have h380 := e380 (n := n) (b := 41) j2 (by decide) (by decide)
      have sd := sx_trans sc1 j4
      have sq := sx_trans su1 j5
      show jw (Option.bind (d_257 n 41 d) _) (Option.bind (Option.bind (d_380 n 41 q) (fun r35 => some r35)) (fun r50 => tmR n (nI y) (nI k) (nI l) r50)) _
      by_cases e41 : K j = 41
      · rw [if_pos e41] at h257 h380
        rw [show d_257 n 41 d = some (.inl (atC d (j + 1))) from h257, show d_380 n 41 q = some (atR q (j + 1)) from h380]
        show jw (tmC n (nI x) k (nI (P l)) (atC d (j + 1))) (tmR n (nI y) (nI k) (nI l) (atR q (j + 1))) _
        have sd' : sx (qMPc x) c (atC d (j + 1)) := sx_pI sd (decide_eq_true (by omega))
        have sq' : sx (qMPu y) u (atR q (j + 1)) := sx_pI sq (decide_eq_true (by omega))
        refine tl_go (by omega) hx hy hk (RK_cg hK (fun A j z1 z2 => ⟨sd'.1 A j (decide_eq_false (by unfold kA at *; omega)), sd'.2 A j (decide_eq_false (by unfold kA at *; omega))⟩) (fun A j z1 z2 => ⟨sq'.1 A j (decide_eq_false (by omega)), sq'.2 A j (decide_eq_false (by omega))⟩)) (PSI_s j2 (by omega)) (PRD_at j3) (by omega) sd' sq' (by omega) ?_
        rw [sq'.1 179 l (decide_eq_false (by omega))]
        exact u9
      · rw [if_neg e41] at h257 h380
        rw [show d_257 n 41 d = some (.inr (flC d 2 (nI (P j)))) from h257, show d_380 n 41 q = some (flt q 2 (nI (P j))) from h380]
        exact hwr (FLR_of (qMPc_c sd) (qMPu_u sq))
    · show jw (some (Sum.inr z)) (Option.bind (tlR n b) (fun r50 => tmR n (nI y) (nI k) (nI l) r50)) _
      rw [hb]
      exact hwr (FLR_tr hf atC_sx atR_sx)
  · rw [if_neg e] at h258 h379
    rw [show d_258 n 40 c = some (0, c) from h258, show d_379 n 40 u = some (0, u) from h379]
    show jw (tmC n (nI x) k (nI (P l)) c) (tmR n (nI y) (nI k) (nI l) u) _
    exact tl_go (by omega) hx hy hk hK h hD (Nat.le_refl _) sx_rfl sx_rfl (by omega) u9
end KND
