/-! WIRING: one want, class and reference -/
section WAN
variable {n t p s k x a4 : Nat} {c w m u v : cS} {S : Nat → Nat}
def wr1 (rec : Int32 → Int32 → cS → Option (cS)) (n : Nat) (a1 v8 v3 : Int32) (u : cS) : Option cS :=
                Option.bind (d_428 n v8 v3 u) (fun r10 =>
                jn (fun p11 : cS => some p11)
                (fun j89 =>
                if (r10.1 174 74) ≤ 0 then
                  j89 r10
                else
                  if ib 0 20 then
                  Option.bind (d_480 rec n a1 v8 (r10.1 233 (ix 0)) v3 r10) (fun r16 =>
                  j89 r16)
                  else none))
theorem e477 {a b d : Int32} (h : v.1 174 131 = nI 0) : d_477 n a b d v = some (pI (pI (pI v 174 131 a) 174 132 b) 174 133 d) := by
  unfold d_477
  exact eq_wp (wpt (by rw [h]; decide) (wpl (wpl (wpl rfl))))
/-- the class behind the asking -/
theorem r348_go {rec : Int32 → Int32 → Int32 → cS → Option (Int32 × cS)} {b : Int32} {K : Int32 × cS → Prop} (hn : 1000 ≤ n) (hC : CCS w m) (h : WR m w v S k) (he : ¬ (eff m t 13 p 0).1 = 0) (ha : a4 < 12) (hb : b = 0 ↔ wlt m t p = false)
  (k0 : wst m t S p = 0 → K (0, w)) (k1 : ∀ q : Nat, (q = 1 ∧ wst m t S p = 3) ∨ (q = 2 ∧ wst m t S p = 4) ∨ (q = 3 ∧ wst m t S p = 1) → K (nI q, pI (pI w 167 8 (nI p)) 167 9 (nI x))) (k2 : wst m t S p = 2 → wtx m t p < ccn m → S (wtx m t p) = 0 → prt m (wtx m t p) = true → wp (rec (nI (wtx m t p)) (nI t) (nI (a4 + 1)) w) K) : wp (r348 rec n (nI x) (nI p) (nI t) (nI a4) (oI (wof m t p)) (wlb m t p) w b) K := by
  have h12 := (CCS_p hC).1
  unfold r348
  refine wpc (fit_c (of := wof m t p) (L := wlb m t p) hn hC (fun x hx => ⟨(h.1 x hx).2.1, (h.1 x hx).2.2.1⟩) (fun y hy => wof_lt hy)) (fun r hr => ?_)
  subst hr
  dsimp only
  obtain ⟨f1, f2, f3⟩ := ftC_le (b := ftB m (wof m t p) (wlb m t p)) (ccn m)
  have hw : wst m t S p = wstF (ftC (ftB m (wof m t p) (wlb m t p)) (ccn m)) (wlt m t p) S := by
    unfold wst
    rw [if_neg he]
  unfold wstF at hw
  have hx : wtx m t p = ((ftC (ftB m (wof m t p) (wlb m t p)) (ccn m)).2).getD 0 := rfl
  generalize ftC (ftB m (wof m t p) (wlb m t p)) (ccn m) = F at *
  by_cases e1 : F.1 = 1
  · refine wpt (by rw [e1]; rfl) (wpj ?_)
    rw [if_neg (by omega), if_neg (by omega)] at hw
    by_cases el : wlt m t p = true
    · rw [if_pos el] at hw
      exact wpf (fun z => by rw [hb.mp z] at el; cases el) (k0 hw)
    · rw [if_neg el] at hw
      refine wpt (hb.mpr (by simpa using el)) ?_
      cases hF : F.2 with
      | none =>
        have := f2.mpr hF
        omega
      | some y =>
        obtain ⟨y1, y2⟩ := f3 y hF
        rw [hF] at hw hx
        dsimp only at hw
        have hx : wtx m t p = y := hx
        rw [oI_s]
        obtain ⟨s1, -, -, s4, -⟩ := h.1 y y1
        refine wpt (by simp (disch := first | omega | decide) only [↓neg1, nlit, rI, rL, rI2, rL1, nI_add, pk_mul, sbT, dvT, nmd, ixT, ↓ibT, ltT, ltF, leT, leF, eqT, eqF, nM_ltT, nM_ltF, nM_leT, nM_leF, nM_eqF, nM_eqF', nbT0, nbT1, oI_s, oI_n, natF, natT, nltT, nltF, nleT, nleF, ↓reduceIte, lgc, not_true_eq_false, not_false_eq_true, or_false, false_or, or_true, true_or, and_true, true_and, and_false, false_and, ne_eq, eq_self, or_self, and_self]) ?_
        rw [ix_n (by omega), s4]
        have hpr : prt m y = true := by
          unfold ftB at y2
          rw [Bool.and_eq_true, Bool.and_eq_true] at y2
          exact y2.1.1
        by_cases e2 : S y = 2
        · rw [if_pos e2] at hw
          exact wpt (by rw [e2]; rfl) (k0 hw)
        · rw [if_neg e2] at hw
          refine wpf (fun z => e2 ((nI_eq (by omega) (by decide)).mp (show _ = nI 2 from z))) (wpt (by simp (disch := first | omega | decide) only [↓neg1, nlit, rI, rL, rI2, rL1, nI_add, pk_mul, sbT, dvT, nmd, ixT, ↓ibT, ltT, ltF, leT, leF, eqT, eqF, nM_ltT, nM_ltF, nM_leT, nM_leF, nM_eqF, nM_eqF', nbT0, nbT1, oI_s, oI_n, natF, natT, nltT, nltF, nleT, nleF, ↓reduceIte, lgc, not_true_eq_false, not_false_eq_true, or_false, false_or, or_true, true_or, and_true, true_and, and_false, false_and, ne_eq, eq_self, or_self, and_self]) (wpj ?_))
          by_cases e3 : S y = 1
          · rw [if_pos e3] at hw
            exact wpt (by rw [e3]; rfl) (wpe (show d_349 n 3 (nI p) (nI x) w = some (3, _) from rfl) (k1 3 (Or.inr (Or.inr ⟨rfl, hw⟩))))
          · rw [if_neg e3] at hw
            have hk := k2 hw (by rw [hx]; exact y1) (by rw [hx]; omega) (by rw [hx]; exact hpr)
            rw [hx] at hk
            refine wpf (fun z => e3 ((nI_eq (by omega) (by decide)).mp (show _ = nI 1 from z))) (wpt (by simp (disch := first | omega | decide) only [↓neg1, nlit, rI, rL, rI2, rL1, nI_add, pk_mul, sbT, dvT, nmd, ixT, ↓ibT, ltT, ltF, leT, leF, eqT, eqF, nM_ltT, nM_ltF, nM_leT, nM_leF, nM_eqF, nM_eqF', nbT0, nbT1, oI_s, oI_n, natF, natT, nltT, nltF, nleT, nleF, ↓reduceIte, lgc, not_true_eq_false, not_false_eq_true, or_false, false_or, or_true, true_or, and_true, true_and, and_false, false_and, ne_eq, eq_self, or_self, and_self]) ?_)
            rw [show nI a4 + 1 = nI (a4 + 1) from nI_1 _]
            exact wpc hk (fun r hr => hr)
  · refine wpf (fun z => e1 ((nI_eq (by omega) (by decide)).mp (show _ = nI 1 from z))) (wpj ?_)
    by_cases e0 : F.1 = 0
    · rw [if_pos e0] at hw
      exact wpt (by rw [e0]; rfl) (wpe (show d_349 n 1 (nI p) (nI x) w = some (1, _) from rfl) (k1 1 (Or.inl ⟨rfl, hw⟩)))
    · rw [if_neg e0, if_pos e1] at hw
      exact wpf (fun z => e0 ((nI_eq (by omega) (by decide)).mp (show _ = nI 0 from z))) (wpe (show d_349 n 2 (nI p) (nI x) w = some (2, _) from rfl) (k1 2 (Or.inr (Or.inl ⟨rfl, hw⟩))))
/-- one want of the class, whole -/
theorem c348_go {rec : Int32 → Int32 → Int32 → cS → Option (Int32 × cS)} {K : Int32 × cS → Prop} (hn : 1000 ≤ n) (hE : EC w m) (hP : isP m p s) (ht : t < kcn m) (h : WR m w v S k) (ha : a4 < 12)
  (k0 : wst m t S p = 0 → ∀ y, sx qS w y → K (0, y)) (k1 : ∀ (q : Nat) y, (q = 1 ∧ wst m t S p = 3) ∨ (q = 2 ∧ wst m t S p = 4) ∨ (q = 3 ∧ wst m t S p = 1) → sx qS w y → K (nI q, pI (pI y 167 8 (nI p)) 167 9 (nI x))) (k2 : wst m t S p = 2 → wtx m t p < ccn m → S (wtx m t p) = 0 → prt m (wtx m t p) = true → ∀ y, sx qS w y → wp (rec (nI (wtx m t p)) (nI t) (nI (a4 + 1)) y) K) : wp (d_348 rec n (nI x) (nI p) (nI t) (nI a4) w) K := by
  refine e348 hn hE hP ht (fun y e hy => k0 (by unfold wst; rw [if_pos e]) y hy) (fun b y he hb hy => ?_)
  have hW : WR m y v S k := WR_sx h hy (show sx (fun _ _ => false) v v from sx_rfl) (fun A i z => decide_eq_false (by omega)) (fun _ _ _ => rfl)
  exact r348_go hn (CCS_CA (CA_sx hy nC_qS) hE.2.2.1) hW (by omega) ha hb (fun z => k0 z y hy) (fun q z => k1 q y z hy) (fun z1 z2 z3 z4 => k2 z1 z2 z3 z4 y hy)
end WAN
