/-! give in the reference: a FILE that is wrong changes little -/
section GVWS
variable {n L r : Nat} {b : Nat → Nat} {u : cS}
def qGz (A l : Nat) : Bool := decide ((A = 174 ∧ (l = 0 ∨ l = 2 ∨ l = 80 ∨ l = 81 ∨ l = 82)) ∨ (A = 222 ∧ l = 1218) ∨ (223 ≤ A ∧ A ≤ 225 ∧ 1218 * 20 ≤ l) ∨ (226 ≤ A ∧ A ≤ 228 ∧ 1218 * 80 ≤ l))
theorem e121w {w : Nat} (hn : 100 ≤ n) (hL : L ≤ 4000) (h2 : u.1 174 2 = nI L) (hT : ∀ j, j < L → b j < 256 ∧ u.1 175 j = nI (b j)) (h109 : d_109 n (nI r) (u121 u) = some (nI 1)) (hf : fFl b L = .inl w) : ∃ d, d_121 n (nI r) u = some ((-1000) - nI w, d) ∧ sx qGz u d ∧ d.1 174 2 = nI 0 ∧ d.1 174 0 = nI 0 := by
  obtain ⟨h0, hU0, -, z2, z0⟩ := v121_s (r := 1218) hL h2 hT
  have sz0 : sx qGz u (v121 u) := by
    unfold v121 u121
    exact sx_pI (sx_pI (sx_pI (sx_pI (sx_pI (sx_pI sx_rfl (decide_eq_true (by omega))) (decide_eq_true (by omega))) (decide_eq_true (by omega))) (decide_eq_true (by omega))) (decide_eq_true (by omega))) (decide_eq_true (by omega))
  have bse : ∀ {q : Int32 × cS}, wp (Option.bind (d_433 n 0 20 (v121 u)) (fun r15 =>
    Option.bind (whl (muL n r15.1) n (0, r15.2))
    (Sum.elim (enG n (nI r) r15.1) (enG n (nI r) r15.1)))) (fun z => z = q) → d_121 n (nI r) u = some q := fun {q} z => by
    rw [d121_s]
    exact eq_wp (wpe h109 (wpf (by decide) z))
  have enW : ∀ {d : cS} {w : Nat} {cnt : Int32}, FUW d w → enG n (nI r) cnt d = some ((-1000) - nI w, d) := fun {d w cnt} z => by
    unfold enG
    rw [z.2.2]
    exact eq_wp (wpj (wpf (ne82 z) rfl))
  have wd : ∀ {d : cS}, sx qMu (v121 u) d → sx qGz u d ∧ d.1 174 2 = nI 0 ∧ d.1 174 0 = nI 0 := fun {d} z => by
    refine ⟨sx_trans sz0 (sx_wide z (fun A l y => ?_)), ?_, ?_⟩
    · have := of_decide_eq_false y
      exact decide_eq_false (by omega)
    · rw [z.1 _ _ (decide_eq_false (by omega))]
      exact z2
    · rw [z.1 _ _ (decide_eq_false (by omega))]
      exact z0
  unfold fFl at hf
  cases e : fby b L 0 20 0 with
  | none =>
    obtain ⟨h433, hW⟩ := e433n (n := n) h0 e (by decide) (by decide)
    rw [e] at hf
    cases hf
    have sd : sx qMu (v121 u) (pI (v121 u) 174 82 (nI 1)) := sx_pI sx_rfl (decide_eq_true (by omega))
    exact ⟨_, bse (wpe h433 (wpe (muL_w (k := 0) (by omega) hW) (wp_of (enW hW) rfl))), wd sd⟩
  | some k =>
    have hk := fby_some e
    rw [e] at hf
    dsimp only at hf
    have y1 := e433s (n := n) h0 e (by decide)
    have h1 : FUS (pI (v121 u) 174 80 (nI (0 + 1))) b L 1 := FUS_at h0 (by omega)
    have hU1 : URW (pI (v121 u) 174 80 (nI (0 + 1))) 1218 [] := ⟨by rw [rI, if_neg (by omega)]; exact hU0.1, fun j m hj => by cases hj⟩
    have s1 : sx qMu (v121 u) (pI (v121 u) 174 80 (nI (0 + 1))) := sx_pI sx_rfl (decide_eq_true (by omega))
    obtain ⟨g1, g2⟩ := mu_lp (n := n) hn k 0 1 n [] _ (by omega) rfl (by omega) h1 hU1 (fun x hx => by cases hx)
    rw [Nat.zero_add] at g1 g2
    cases e2 : fMl b L k 1 [] with
    | inl w1 =>
      rw [e2] at hf
      cases hf
      obtain ⟨d, k1, k2, k3⟩ := g2 _ e2
      refine ⟨d, bse (wpe y1 ?_), wd (sx_trans s1 k3)⟩
      rcases k1 with k1 | k1
      · exact wpe k1 (wpSl (wp_of (enW k2) rfl))
      · exact wpe k1 (wpSr (wp_of (enW k2) rfl))
    | inr p =>
      rw [e2] at hf
      dsimp only at hf
      have hp := (fMl_b (b := b) (r := k) (a := 1) (l := []) (L := L) (by omega) (fun x hx => by cases hx)).2 e2
      obtain ⟨d, k1, k2, k3, k4⟩ := g1 p e2
      by_cases e3 : p.2 < L
      · rw [if_pos e3] at hf
        cases hf
        refine ⟨d, bse (wpe y1 (wpe k1 (wpSl ?_))), wd (sx_trans s1 k4)⟩
        unfold enG
        rw [k2.2.2.1, k2.2.2.2.1]
        exact wpj (wpt k2.2.2.2.2.1 (wpf (by simp (disch := first | omega | decide) only [↓neg1, nlit, rI, rL, rI2, rL1, nI_add, pk_mul, sbT, dvT, nmd, ixT, ↓ibT, ltT, ltF, leT, leF, eqT, eqF, nM_ltT, nM_ltF, nM_leT, nM_leF, nM_eqF, nM_eqF', nbT0, nbT1, oI_s, oI_n, natF, natT, nltT, nltF, nleT, nleF, ↓reduceIte, lgc, not_true_eq_false, not_false_eq_true, or_false, false_or, or_true, true_or, and_true, true_and, and_false, false_and, ne_eq, eq_self, or_self, and_self]) rfl))
      · rw [if_neg e3] at hf
        cases hf
end GVWS
