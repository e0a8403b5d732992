/-! READING: what the cutting gives -/
section TKQ
variable {n p k i j L N : Nat} {b : Nat → Nat} {c d u w : cS}
theorem TKR_of (hL : L ≤ 4000) (hb : ∀ j, j < L → b j < 256) (hX : LXN b L N) (hN : psn b L N = L) (hc : LXW c b L N) (hc3 : c.1 3 N = nI 0) (hc4 : c.1 4 N = nI L) (hu : RXW u b L N) (hu8 : u.1 178 N = nI 5) (hu9 : u.1 179 N = nI L) : TKR c u (fun j => if j < N then tkC b L (psn b L j) else 0) (psn b L) (fun j => tkV b L (psn b L j)) N := by
  obtain ⟨x1, -⟩ := hX
  have hNl := psn_le N x1
  have key : ∀ j, j < N → ((tkC b L (psn b L j) = 1 ∧ tkS b L (psn b L j) = 0 ∧ tkW b L (psn b L j) = tkV b L (psn b L j) ∧ tkH b (psn b L j) = true ∧ tkV b L (psn b L j) ≠ 0) ∨ (tkC b L (psn b L j) = 2 ∧ tkS b L (psn b L j) = 1 ∧ tkW b L (psn b L j) = tkV b L (psn b L j) ∧ tkH b (psn b L j) = true ∧ ∃ x, x < 1000000000 ∧ tkV b L (psn b L j) = (nI x).toInt64) ∨ (tkC b L (psn b L j) = 3 ∧ tkS b L (psn b L j) = 2 ∧ tkW b L (psn b L j) = tkV b L (psn b L j) ∧ tkH b (psn b L j) = true) ∨
      (10 ≤ tkC b L (psn b L j) ∧ tkC b L (psn b L j) < 128 ∧ tkS b L (psn b L j) = 3 ∧ tkW b L (psn b L j) = (nI (tkC b L (psn b L j))).toInt64) ∨ (200 ≤ tkC b L (psn b L j) ∧ tkC b L (psn b L j) < 231 ∧ tkS b L (psn b L j) = 4 ∧ tkW b L (psn b L j) = (nI (tkC b L (psn b L j) - 200)).toInt64)) ∧ psn b L j + tln (tkC b L (psn b L j)) ≤ tkE b L (psn b L j) := fun j hj => by
    obtain ⟨p1, p2⟩ := x1 j hj
    generalize psn b L j = p at *
    have hgt := tkE_gt (b := b) p1
    by_cases hl : lxL (b p) = true
    · have hE : tkE b L p = spE lxLD b L p := if_pos hl
      have hO : tkO b L p = decide (spE lxLD b L p - p ≤ 8) := if_pos hl
      have hV : tkV b L p = pkB b p (spE lxLD b L p - p) := if_pos hl
      have hS : tkS b L p = wSd (tkV b L p) := if_pos hl
      have hK : tkC b L p = wCd (tkV b L p) := if_pos hl
      have hWt : tkW b L p = wWd (tkV b L p) := if_pos hl
      have hH : tkH b p = true := by unfold tkH; rw [hl]; rfl
      obtain ⟨s1, s2, s3, s4⟩ := spE_in (q := lxLD) (b := b) (L := L) (p := p) (by omega)
      have h8 := of_decide_eq_true (hO.symm.trans p2)
      have hn := pkB_n (b := b) (p := p) (k := spE lxLD b L p - p) (fun j hj => by have := lxLD_lo (s3 (p + j) (by omega) (by omega)); omega) h8
      have hg := pkn_ge (b := b) (p := p) (k := spE lxLD b L p - p) (fun j hj => lxLD_1 (s3 (p + j) (by omega) (by omega))) (by omega)
      cases hw : wOf (tkV b L p) with
      | none =>
        rw [(wd_n hw).2.1] at hS
        rw [(wd_n hw).1] at hK
        rw [(wd_n hw).2.2] at hWt
        refine ⟨Or.inl ⟨hK, hS, hWt, hH, fun z => ?_⟩, ?_⟩
        · rw [hV] at z
          rw [z] at hn
          have h0 : (0 : Int64).toBitVec.toNat = 0 := rfl
          have h1 : 0 < 256 ^ (spE lxLD b L p - p - 1) := Nat.pow_pos (by decide)
          omega
        · rw [hK]
          show p + 1 ≤ _
          omega
      | some x =>
        rw [(wd_s hw).2.1] at hS
        rw [(wd_s hw).1] at hK
        rw [(wd_s hw).2.2] at hWt
        have hx := (ff_some hw).1
        have hxv := of_decide_eq_true (ff_some hw).2.1
        obtain ⟨w1, w2, w3, w4⟩ := wrd_n x hx
        refine ⟨Or.inr (Or.inr (Or.inr (Or.inr ⟨by omega, by omega, hS, ?_⟩))), ?_⟩
        · rw [hWt, hK, show 200 + x - 200 = x by omega]
        · rw [hK]
          unfold tln
          rw [if_pos (by omega), show 200 + x - 200 = x by omega, hE]
          rw [hxv, hV, hn.1] at w3 w4
          have := pow_bt hg hn.2 w3 w4
          omega
    · by_cases hd : lxD (b p) = true
      · have hE : tkE b L p = spE lxD b L p := by unfold tkE; rw [if_neg hl, if_pos hd]
        have hO : tkO b L p = decide (spE lxD b L p - p ≤ 9) := by unfold tkO; rw [if_neg hl, if_pos hd]
        have hV : tkV b L p = nmB b p (spE lxD b L p - p) := by unfold tkV; rw [if_neg hl, if_pos hd]
        have hK : tkC b L p = 2 := by unfold tkC; rw [if_neg hl, if_pos hd]
        have hS : tkS b L p = 1 := by unfold tkS; rw [if_neg hl, if_pos hd]
        have hWt : tkW b L p = tkV b L p := by unfold tkW; rw [if_neg hl, if_pos hd]
        have hH : tkH b p = true := by unfold tkH; rw [hd]; simp
        obtain ⟨s1, s2, s3, s4⟩ := spE_in (q := lxD) (b := b) (L := L) (p := p) (by omega)
        have h9 := of_decide_eq_true (hO.symm.trans p2)
        obtain ⟨x, y1, y2⟩ := nmB_n (b := b) (p := p) (k := spE lxD b L p - p) (fun j hj => s3 (p + j) (by omega) (by omega)) h9
        have h10 : 10 ^ (spE lxD b L p - p) ≤ 10 ^ 9 := Nat.pow_le_pow_right (by decide) h9
        have h11 : (10 : Nat) ^ 9 = 1000000000 := by decide
        refine ⟨Or.inr (Or.inl ⟨hK, hS, hWt, hH, x, by omega, by rw [hV]; exact y2⟩), ?_⟩
        rw [hK]
        show p + 1 ≤ _
        omega
      · by_cases h39 : b p = 39
        · have hK : tkC b L p = 3 := by unfold tkC; rw [if_neg hl, if_neg hd, if_pos h39]
          have hS : tkS b L p = 2 := by unfold tkS; rw [if_neg hl, if_neg hd, if_pos h39]
          have hWt : tkW b L p = tkV b L p := by unfold tkW; rw [if_neg hl, if_neg hd, if_pos h39]
          have hH : tkH b p = true := by unfold tkH; rw [decide_eq_true h39]; simp
          refine ⟨Or.inr (Or.inr (Or.inl ⟨hK, hS, hWt, hH⟩)), ?_⟩
          rw [hK]
          show p + 1 ≤ _
          omega
        · have hK : tkC b L p = b p := by unfold tkC; rw [if_neg hl, if_neg hd, if_neg h39]
          have hS : tkS b L p = 3 := by unfold tkS; rw [if_neg hl, if_neg hd, if_neg h39]
          have hWt : tkW b L p = (nI (b p)).toInt64 := by unfold tkW; rw [if_neg hl, if_neg hd, if_neg h39]
          have hO : tkO b L p = lxG (b p) := by unfold tkO; rw [if_neg hl, if_neg hd, if_neg h39]
          have hg : 40 ≤ b p ∧ b p ≤ 125 := by
            rw [hO] at p2
            unfold lxG at p2
            simp at p2
            omega
          refine ⟨Or.inr (Or.inr (Or.inr (Or.inl ⟨by omega, by omega, hS, by rw [hWt, hK]⟩))), ?_⟩
          rw [hK]
          unfold tln
          rw [if_neg (by omega)]
          omega
  refine ⟨by omega, if_neg (by omega), fun j hj => ?_, fun j hj => ?_⟩
  · by_cases e : j = N
    · subst e
      dsimp only
      rw [if_neg (by omega), hN]
      exact ⟨hc3, hc4, hu9, hL, Or.inl ⟨if_neg (by omega), rfl, hu8⟩⟩
    · have hj' : j < N := by omega
      obtain ⟨a1, a2, a3⟩ := hc j hj'
      obtain ⟨b1, b2, b3⟩ := hu j hj'
      have hp := (x1 j hj').1
      refine ⟨?_, a2, b2, by omega, ?_⟩
      · dsimp only
        rw [if_pos hj']
        exact a1
      · unfold TKO
        dsimp only
        rw [if_pos hj', b1, b3]
        rcases (key j hj').1 with ⟨k1, k2, k3, k4, k5⟩ | ⟨k1, k2, k3, k4, k5⟩ | ⟨k1, k2, k3, k4⟩ | ⟨k1, k2, k3, k4⟩ | ⟨k1, k2, k3, k4⟩
        · exact Or.inr (Or.inl ⟨k1, by rw [k2], a3 k4, k3, k5⟩)
        · exact Or.inr (Or.inr (Or.inl ⟨k1, by rw [k2], a3 k4, k3, k5⟩))
        · exact Or.inr (Or.inr (Or.inr (Or.inl ⟨k1, by rw [k2], a3 k4, k3⟩)))
        · exact Or.inr (Or.inr (Or.inr (Or.inr (Or.inl ⟨k1, k2, by rw [k3], k4⟩))))
        · exact Or.inr (Or.inr (Or.inr (Or.inr (Or.inr ⟨k1, k2, by rw [k3], k4⟩))))
  · dsimp only
    rw [if_pos hj]
    have h1 := (key j hj).2
    have h2 := (psn_le (j + 1) (fun i hi => x1 i (by omega))).2.2.2
    have e1 : pre b L (j + 1) = tkE b L (psn b L j) := rfl
    omega
end TKQ
