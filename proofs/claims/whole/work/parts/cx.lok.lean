/-! WIRING: one want in lockstep -/
section LOK
variable {n t p s k x y a4 : Nat} {c w w1 m u v v1 : cS} {S S1 : Nat → Nat}
/-- stages go up alone; behind a good end nothing is left in the making -/
def XS (S S' : Nat → Nat) (r : Int32) : Prop := (∀ i, S i ≠ 0 → S' i = S i) ∧ (r = nI 0 → ∀ i, S' i = 1 → S i = 1)
theorem XS_rfl {r : Int32} : XS S S r := ⟨fun _ _ => rfl, fun _ _ z => z⟩
theorem XS_tr {S2 : Nat → Nat} {r : Int32} (h : XS S S1 (nI 0)) (g : XS S1 S2 r) : XS S S2 r :=
  ⟨fun i z => (g.1 i (by rw [h.1 i z]; exact z)).trans (h.1 i z), fun e i z => h.2 rfl i (g.2 e i z)⟩
/-- class and reference go on alike -/
def LK (m w v : cS) (S : Nat → Nat) (r : Int32 × cS) (v' : cS) : Prop := ∃ S' k', WR m r.2 v' S' k' ∧ v'.1 174 131 = r.1 ∧ XS S S' r.1 ∧ sx qWc w r.2 ∧ sx qWs v v' ∧ (r.1 = nI 0 ∨ 0 < r.1)
theorem LK_tr {r : Int32 × cS} {v' : cS} (h1 : sx qWc w w1) (h2 : sx qWs v v1) (h3 : XS S S1 (nI 0)) (h : LK m w1 v1 S1 r v') : LK m w v S r v' := by
  obtain ⟨S', k', a1, a2, a3, a4, a5, a6⟩ := h
  exact ⟨S', k', a1, a2, XS_tr h3 a3, sx_trans h1 a4, sx_trans h2 a5, a6⟩
theorem WR_131 {a : Int32} (h : WR m w v S k) : WR m w (pI v 174 131 a) S k :=
  WR_sx h (show sx (fun _ _ => false) w w from sx_rfl) (sx_pI (r := fun A i => decide (A = 174 ∧ i = 131)) sx_rfl (by decide)) (fun _ _ _ => rfl) (fun A i z => decide_eq_false (by omega))
theorem wan {e E : Nat} (hn : 1000 ≤ n) (hE : EC w m) (hA : AG m v) (hN : CN m) (hP : isP m p s) (ht : t < kcn m) (h : WR m w v S k) (hv : v.1 174 131 = nI 0) (ha : a4 < 12)
  (hrec : ∀ w1 v1, sx qWc w w1 → sx qWs v v1 → WR m w1 v1 S k → v1.1 174 131 = nI 0 → ∀ y, y < ccn m → S y = 0 → jw (d_347 e n (nI y) (nI t) (nI (a4 + 1)) w1) (d_478 (d_479 E n) n (nI y) v1) (LK m w1 v1 S)) :
  jw (d_348 (d_347 e n) n (nI x) (nI p) (nI t) (nI a4) w) (wr1 (d_479 E n) n (nI x) (nI p) (nI t) v) (LK m w v S) := by
  have SW : ∀ {y}, sx qS w y → sx qWc w y := fun hy => sx_wide hy (fun a i z => by
    have := of_decide_eq_false z
    exact decide_eq_false (by omega))
  have SV : ∀ {y}, sx qR v y → sx qWs v y := fun hy => sx_wide hy (fun a i z => by
    have := of_decide_eq_false z
    exact decide_eq_false (by omega))
  have hW : ∀ {y d}, sx qS w y → sx qR v d → WR m y d S k := fun hy hd => WR_sx h hy hd (fun A i z => decide_eq_false (by omega)) (fun A i z => decide_eq_false (by omega))
  have hV : ∀ {d}, sx qR v d → d.1 174 131 = nI 0 := fun hd => (hd.1 174 131 (by decide)).trans hv
  unfold jw
  refine c348_go hn hE hP ht h ha (fun z y hy => ?_) (fun q y z hy => ?_) (fun z1 z2 z3 z4 y hy => ?_)
  · refine wr1_go hn hA hE hN hP ht h hv (fun _ d hd => ?_) (fun q d z' _ => absurd z' (by omega)) (fun z' => absurd z' (by omega))
    exact ⟨S, k, hW hy hd, hV hd, XS_rfl, SW hy, SV hd, Or.inl rfl⟩
  · refine wr1_go hn hA hE hN hP ht h hv (fun z' => absurd z' (by omega)) (fun q' d z' hd => ?_) (fun z' => absurd z' (by omega))
    have hqq : q' = q := by omega
    subst hqq
    have h3 : q' = 1 ∨ q' = 2 ∨ q' = 3 := by omega
    refine ⟨S, k, WR_note (WR_131 (hW hy hd)), ?_, XS_rfl, sx_pI (sx_pI (SW hy) rfl) rfl, sx_pI (sx_pI (sx_pI (SV hd) rfl) rfl) rfl, Or.inr ?_⟩
    · rw [rI, if_neg (by omega), rI, if_neg (by omega), rI, if_pos ⟨rfl, rfl⟩]
    · rcases h3 with rfl | rfl | rfl
      · show (0 : Int32) < nI 1
        decide
      · show (0 : Int32) < nI 2
        decide
      · show (0 : Int32) < nI 3
        decide
  · show jw (d_347 e n (nI (wtx m t p)) (nI t) (nI (a4 + 1)) y) (wr1 (d_479 E n) n (nI x) (nI p) (nI t) v) (LK m w v S)
    refine jw_swap ?_
    unfold jw
    refine wr1_go hn hA hE hN hP ht h hv (fun z' => absurd z' (by omega)) (fun q d z' _ => absurd z' (by omega)) (fun _ _ _ _ d hd => ?_)
    show jw (d_478 (d_479 E n) n (nI (wtx m t p)) d) (d_347 e n (nI (wtx m t p)) (nI t) (nI (a4 + 1)) y) (fun q r => LK m w v S r q)
    refine jw_swap ?_
    exact jw_mono (hrec y d (SW hy) (SV hd) (hW hy hd) (hV hd) _ z2 z3) (fun r q hl => LK_tr (SW hy) (SV hd) XS_rfl hl)
end LOK
