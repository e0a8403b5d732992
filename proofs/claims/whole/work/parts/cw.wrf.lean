/-! WIRING: one want, the reference -/
section WRF
variable {n t p s k x : Nat} {c w m u v : cS} {S : Nat → Nat}
/-- the reference behind the asking -/
theorem r480_go {rec : Int32 → Int32 → cS → Option (cS)} {b : Int32} {K : cS → Prop} (hn : 1000 ≤ n) (hA : AG m v) (hC : CCS c m) (h : WR m w v S k) (he : ¬ (eff m t 13 p 0).1 = 0) (hb : b = 0 ↔ wlt m t p = false) (hv : v.1 174 131 = nI 0)
  (k0 : wst m t S p = 0 → K v) (k1 : ∀ q : Nat, (q = 1 ∧ wst m t S p = 3) ∨ (q = 2 ∧ wst m t S p = 4) ∨ (q = 3 ∧ wst m t S p = 1) → K (pI (pI (pI v 174 131 (nI q)) 174 132 (nI p)) 174 133 (nI x))) (k2 : wst m t S p = 2 → wtx m t p < ccn m → S (wtx m t p) = 0 → prt m (wtx m t p) = true → wp (d_478 rec n (nI (wtx m t p)) v) K) : wp (r480 rec n (nI x) (nI p) (oI (wof m t p)) (wlb m t p) (b, v)) K := by
  have h12 := (CCS_p hC).1
  have hq : ∀ q : Nat, (pI (pI (pI v 174 131 (nI q)) 174 132 (nI p)) 174 133 (nI x)).1 174 131 = nI q := fun q => by
    rw [rI, if_neg (by omega), rI, if_neg (by omega), rI, if_pos ⟨rfl, rfl⟩]
  unfold r480
  dsimp only
  refine wpc (fit_r (of := wof m t p) (L := wlb m t p) hn hA hC (fun x hx => ⟨(h.1 x hx).2.2.2.2.1, (h.1 x hx).2.2.2.2.2.1⟩) (fun y hy => wof_lt hy)) (fun r hr => ?_)
  subst hr
  dsimp only
  obtain ⟨f1, f2, f3⟩ := ftC_le (b := ftB m (wof m t p) (wlb m t p)) (ccn m)
  have hw : wst m t S p = wstF (ftC (ftB m (wof m t p) (wlb m t p)) (ccn m)) (wlt m t p) S := by
    unfold wst
    rw [if_neg he]
  unfold wstF at hw
  have hx : wtx m t p = ((ftC (ftB m (wof m t p) (wlb m t p)) (ccn m)).2).getD 0 := rfl
  generalize ftC (ftB m (wof m t p) (wlb m t p)) (ccn m) = F at *
  refine wpj ?_
  by_cases e0 : F.1 = 0
  · rw [if_pos e0] at hw
    refine wpt (by rw [e0]; rfl) (wpe (e477 hv) (wpj (wpt (by rw [e0]; decide) (wpj (wpt ?_ (k1 1 (Or.inl ⟨rfl, hw⟩)))))))
    rw [show (1 : Int32) = nI 1 from rfl, hq]
    decide
  · refine wpf (fun z => e0 ((nI_eq (by omega) (by decide)).mp (show _ = nI 0 from z))) (wpj ?_)
    rw [if_neg e0] at hw
    by_cases e1 : F.1 = 1
    · refine wpt (by rw [e1]; decide) (wpj (wpf (by rw [hv]; decide) ?_))
      rw [if_neg (by omega)] at hw
      by_cases el : wlt m t p = true
      · rw [if_pos el] at hw
        exact wpf (fun z => by rw [hb.mp z] at el; cases el) (k0 hw)
      · rw [if_neg el] at hw
        refine wpt (hb.mpr (by simpa using el)) ?_
        cases hF : F.2 with
        | none =>
          have := f2.mpr hF
          omega
        | some y =>
          obtain ⟨y1, y2⟩ := f3 y hF
          rw [hF] at hw hx
          dsimp only at hw
          have hx : wtx m t p = y := hx
          rw [oI_s]
          obtain ⟨s1, -, -, -, -, -, s7, s8⟩ := h.1 y y1
          have hpr : prt m y = true := by
            unfold ftB at y2
            rw [Bool.and_eq_true, Bool.and_eq_true] at y2
            exact y2.1.1
          refine wpt (by simp (disch := first | omega | decide) only [↓neg1, nlit, rI, rL, rI2, rL1, nI_add, pk_mul, sbT, dvT, nmd, ixT, ↓ibT, ltT, ltF, leT, leF, eqT, eqF, nM_ltT, nM_ltF, nM_leT, nM_leF, nM_eqF, nM_eqF', nbT0, nbT1, oI_s, oI_n, natF, natT, nltT, nltF, nleT, nleF, ↓reduceIte, lgc, not_true_eq_false, not_false_eq_true, or_false, false_or, or_true, true_or, and_true, true_and, and_false, false_and, ne_eq, eq_self, or_self, and_self]) (wpj ?_)
          by_cases e3 : S y = 1
          · rw [if_neg (by omega), if_pos e3] at hw
            refine wpf (show ¬ v.1 263 (ix (nI y)) = 0 from ?_) (wpe (e477 hv) (k1 3 (Or.inr (Or.inr ⟨rfl, hw⟩))))
            rw [ix_n (by omega), s7, if_pos e3]
            decide
          · refine wpt (show v.1 263 (ix (nI y)) = 0 from ?_) (wpt (by simp (disch := first | omega | decide) only [↓neg1, nlit, rI, rL, rI2, rL1, nI_add, pk_mul, sbT, dvT, nmd, ixT, ↓ibT, ltT, ltF, leT, leF, eqT, eqF, nM_ltT, nM_ltF, nM_leT, nM_leF, nM_eqF, nM_eqF', nbT0, nbT1, oI_s, oI_n, natF, natT, nltT, nltF, nleT, nleF, ↓reduceIte, lgc, not_true_eq_false, not_false_eq_true, or_false, false_or, or_true, true_or, and_true, true_and, and_false, false_and, ne_eq, eq_self, or_self, and_self]) ?_)
            · rw [ix_n (by omega), s7, if_neg e3]
              rfl
            by_cases e2 : S y = 2
            · rw [if_pos e2] at hw
              refine wpf (show ¬ v.1 262 (ix (nI y)) = 0 from ?_) (k0 hw)
              rw [ix_n (by omega), s8, if_pos e2]
              decide
            · rw [if_neg e2, if_neg e3] at hw
              have hk := k2 hw (by rw [hx]; exact y1) (by rw [hx]; omega) (by rw [hx]; exact hpr)
              rw [hx] at hk
              refine wpt (show v.1 262 (ix (nI y)) = 0 from ?_) (wpc hk (fun r hr => hr))
              rw [ix_n (by omega), s8, if_neg e2]
              rfl
    · rw [if_pos e1] at hw
      refine wpf (by simp (disch := first | omega | decide) only [↓neg1, nlit, rI, rL, rI2, rL1, nI_add, pk_mul, sbT, dvT, nmd, ixT, ↓ibT, ltT, ltF, leT, leF, eqT, eqF, nM_ltT, nM_ltF, nM_leT, nM_leF, nM_eqF, nM_eqF', nbT0, nbT1, oI_s, oI_n, natF, natT, nltT, nltF, nleT, nleF, ↓reduceIte, lgc, not_true_eq_false, not_false_eq_true, or_false, false_or, or_true, true_or, and_true, true_and, and_false, false_and, ne_eq, eq_self, or_self, and_self]) (wpe (e477 hv) (wpj (wpt ?_ (k1 2 (Or.inr (Or.inl ⟨rfl, hw⟩))))))
      rw [show (2 : Int32) = nI 2 from rfl, hq]
      decide
/-- one want of the reference, whole -/
theorem wr1_go {rec : Int32 → Int32 → cS → Option (cS)} {K : cS → Prop} (hn : 1000 ≤ n) (hA : AG m v) (hE : EC c m) (hN : CN m) (hP : isP m p s) (ht : t < kcn m) (h : WR m w v S k) (hv : v.1 174 131 = nI 0)
  (k0 : wst m t S p = 0 → ∀ y, sx qR v y → K y) (k1 : ∀ (q : Nat) y, (q = 1 ∧ wst m t S p = 3) ∨ (q = 2 ∧ wst m t S p = 4) ∨ (q = 3 ∧ wst m t S p = 1) → sx qR v y → K (pI (pI (pI y 174 131 (nI q)) 174 132 (nI p)) 174 133 (nI x))) (k2 : wst m t S p = 2 → wtx m t p < ccn m → S (wtx m t p) = 0 → prt m (wtx m t p) = true → ∀ y, sx qR v y → wp (d_478 rec n (nI (wtx m t p)) y) K) : wp (wr1 rec n (nI x) (nI p) (nI t) v) K := by
  unfold wr1
  refine wpc (e428 hn hA hE hP (Or.inl ht)) (fun r hr => ?_)
  obtain ⟨r1, ⟨r2, r3⟩, -⟩ := hr
  refine wpj ?_
  by_cases e : (eff m t 13 p 0).1 = 0
  · exact wpt (by rw [r2, e]; decide) (k0 (by unfold wst; rw [if_pos e]) r r1)
  · have he : 0 < (eff m t 13 p 0).1 := by omega
    have h20 := (eff_ok hE hP rfl he).2.1
    obtain ⟨y, y1, y2, y3⟩ := (r3 he).2.2.2 0 he
    obtain ⟨y', z1, z2⟩ := eff_MR hE hP (Or.inl ht) he
    have hyy : y' = y := Option.some.inj (z1.symm.trans y1)
    subst hyy
    refine wpf (by rw [r2]; simp (disch := first | omega | decide) only [↓neg1, nlit, rI, rL, rI2, rL1, nI_add, pk_mul, sbT, dvT, nmd, ixT, ↓ibT, ltT, ltF, leT, leF, eqT, eqF, nM_ltT, nM_ltF, nM_leT, nM_leF, nM_eqF, nM_eqF', nbT0, nbT1, oI_s, oI_n, natF, natT, nltT, nltF, nleT, nleF, ↓reduceIte, lgc, not_true_eq_false, not_false_eq_true, or_false, false_or, or_true, true_or, and_true, true_and, and_false, false_and, ne_eq, eq_self, or_self, and_self]) (wpt (by decide) ?_)
    rw [show r.1 233 (ix (0 : Int32)) = nI y' by rw [show ix (0 : Int32) = 0 by decide]; exact y2]
    refine wpc (K' := K) (e480 hn (AG_sx hA r1 nP_qR) hE hN ht z1 z2 (fun b d hb hd => ?_)) (fun a ha => ha)
    have s1 : sx qR v d := sx_trans r1 (sx_wide hd (fun a i z => by
      have := of_decide_eq_false z
      exact decide_eq_false (by omega)))
    have hW : WR m w d S k := WR_sx h (show sx (fun _ _ => false) w w from sx_rfl) s1 (fun _ _ _ => rfl) (fun A i z => decide_eq_false (by omega))
    exact r480_go hn (AG_sx hA s1 nP_qR) hE.2.2.1 hW e hb ((s1.1 174 131 (by decide)).trans hv) (fun z => k0 z d s1) (fun q z => k1 q d z s1) (fun z1 z2 z3 z4 => k2 z1 z2 z3 z4 d s1)
end WRF
