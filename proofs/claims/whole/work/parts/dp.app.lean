/-! READING MARKS: a new MARK in both; NAMES in a row -/
section APP
variable {n m rc rr k : Nat} {c d u w : cS} {nm : Int64}
def qAp (rc m k A j : Nat) : Bool := decide ((A = 133 ∧ (j = 11 ∨ j = 13)) ∨ ((A = 142 ∨ A = 143 ∨ A = 144) ∧ j = rc) ∨ (A = 138 ∧ (j = m ∨ (0 < k ∧ j + 1 = m))) ∨ (134 ≤ A ∧ A ≤ 137 ∧ j = m))
def APD (c d : cS) (rc m k : Nat) (nm : Int64) : Prop := d.1 133 11 = nI (m + 1) ∧ d.1 133 12 = nM ∧ d.1 133 13 = nI (m + 1) ∧ d.1 144 rc = nI (k + 1) ∧ d.1 143 rc = nI m ∧ d.1 142 rc = (if k = 0 then nI m else c.1 142 rc) ∧ d.1 138 m = nM ∧ (0 < k → d.1 138 (m - 1) = nI m) ∧ d.2 134 m = nm ∧ d.1 136 m = nI 0 ∧ d.1 137 m = nI 1 ∧ sx (qAp rc m k) c d
theorem e224 (h11 : c.1 133 11 = nI m) (h12 : c.1 133 12 = nM) (h13 : c.1 133 13 = nI m) (hm : m < 4096) (hr : rc < 2242) (h144 : c.1 144 rc = nI k) (hk : k ≤ 20) (hl : 0 < k → c.1 143 rc = nI (m - 1) ∧ 1 ≤ m) : wp (d_224 n (nI rc) nm c) (fun r => r.1 = nI m ∧ APD c r.2 rc m k nm) := by
  have hib : ib (nI rc) 2242 := ib_n hr (by decide)
  have him : ib (nI m) 4096 := ib_n hm (by decide)
  have hix : ix (nI rc) = rc := ix_n (by omega)
  have hixm : ix (nI m) = m := ix_n (by omega)
  have hb1 : vp_nar .boolean 1 = nI 1 := by decide
  unfold d_224
  refine wpj (wpt (show c.1 133 12 < 0 by rw [h12]; decide) ?_)
  rw [h11]
  refine wpt (by simp (disch := first | omega | decide) only [↓neg1, nlit, rI, rL, rI2, rL1, nI_add, pk_mul, sbT, dvT, nmd, ixT, ↓ibT, ltT, ltF, leT, leF, eqT, eqF, nM_ltT, nM_ltF, nM_leT, nM_leF, nM_eqF, nM_eqF', nbT0, nbT1, oI_s, oI_n, natF, natT, nltT, nltF, nleT, nleF, ↓reduceIte, lgc, not_true_eq_false, not_false_eq_true, or_false, false_or, or_true, true_or, and_true, true_and, and_false, false_and, ne_eq, eq_self, or_self, and_self]) (wpjQ (fun z : cS => z = pI c 133 11 (nI (m + 1))) ?_ ?_)
  rotate_left
  · intro Q' k' hk'
    refine wpt (show c.1 133 12 < 0 by rw [h12]; decide) (wpl (hk' _ ?_))
    rw [nI_1]
  rintro z rfl
  refine wpt hib (wpjQ (fun z : cS => z = (if k = 0 then pI (pI c 133 11 (nI (m + 1))) 142 rc (nI m) else pI (pI c 133 11 (nI (m + 1))) 138 (m - 1) (nI m))) ?_ ?_)
  rotate_left
  · intro Q' k' hk'
    rw [hix]
    have r144 : (pI c 133 11 (nI (m + 1))).1 144 rc = nI k := by
      rw [rI, if_neg (by omega)]
      exact h144
    rw [r144]
    by_cases e : k = 0
    · refine wpt (by rw [e]; rfl) (wpt hib (wpl (hk' _ ?_)))
      rw [if_pos e]
    · obtain ⟨l1, l2⟩ := hl (by omega)
      have r143 : (pI c 133 11 (nI (m + 1))).1 143 rc = nI (m - 1) := by
        rw [rI, if_neg (by omega)]
        exact l1
      refine wpf (fun z => e ((nI_eq (by omega) (by decide)).mp (show _ = nI 0 from z))) (wpt hib ?_)
      rw [r143, ix_n (show m - 1 < 2147483648 by omega)]
      refine wpt (ib_n (by omega) (by decide)) (wpl (hk' _ ?_))
      rw [if_neg e]
  rintro z hz
  have z144 : z.1 144 rc = nI k := by
    rw [hz]
    by_cases e : k = 0
    · rw [if_pos e, rI, if_neg (by omega), rI, if_neg (by omega)]
      exact h144
    · rw [if_neg e, rI, if_neg (by omega), rI, if_neg (by omega)]
      exact h144
  have z13 : z.1 133 13 = nI m := by
    rw [hz]
    by_cases e : k = 0
    · rw [if_pos e, rI, if_neg (by omega), rI, if_neg (by omega)]
      exact h13
    · rw [if_neg e, rI, if_neg (by omega), rI, if_neg (by omega)]
      exact h13
  have z11 : z.1 133 11 = nI (m + 1) := by
    rw [hz]
    by_cases e : k = 0
    · rw [if_pos e, rI, if_neg (by omega), rI, if_pos ⟨rfl, rfl⟩]
    · rw [if_neg e, rI, if_neg (by omega), rI, if_pos ⟨rfl, rfl⟩]
  have z12 : z.1 133 12 = nM := by
    rw [hz]
    by_cases e : k = 0
    · rw [if_pos e, rI, if_neg (by omega), rI, if_neg (by omega)]
      exact h12
    · rw [if_neg e, rI, if_neg (by omega), rI, if_neg (by omega)]
      exact h12
  have z142 : z.1 142 rc = (if k = 0 then nI m else c.1 142 rc) := by
    rw [hz]
    by_cases e : k = 0
    · rw [if_pos e, if_pos e, rI, if_pos ⟨rfl, rfl⟩]
    · rw [if_neg e, if_neg e, rI, if_neg (by omega), rI, if_neg (by omega)]
  have z138 : 0 < k → z.1 138 (m - 1) = nI m := fun h => by
    rw [hz, if_neg (by omega), rI, if_pos ⟨rfl, rfl⟩]
  have zs : sx (qAp rc m k) c z := by
    rw [hz]
    by_cases e : k = 0
    · rw [if_pos e]
      exact sx_pI (sx_pI sx_rfl (decide_eq_true (by omega))) (decide_eq_true (by omega))
    · rw [if_neg e]
      exact sx_pI (sx_pI sx_rfl (decide_eq_true (by omega))) (decide_eq_true (by have := (hl (by omega)).2; omega))
  clear hz
  refine wpt hib ?_
  rw [hix]
  refine wpl (wpt hib (wpt hib ?_))
  rw [show (pI z 143 rc (nI m)).1 144 rc = nI k by rw [rI, if_neg (by omega)]; exact z144, nI_1]
  refine wpl ?_
  rw [show (pI (pI z 143 rc (nI m)) 144 rc (nI (k + 1))).1 133 13 = nI m by rw [rI, if_neg (by omega), rI, if_neg (by omega)]; exact z13, nI_1]
  refine wpl (wpt him ?_)
  rw [hixm, hb1]
  refine wpl (wpt him (wpl (wpt him (wpl (wpt him (wpl (wpt him (wpl ⟨rfl, ?_⟩))))))))
  dsimp only
  unfold APD
  refine ⟨?_, ?_, ?_, ?_, ?_, ?_, ?_, fun hk0 => ?_, ?_, ?_, ?_, ?_⟩
  · rw [rI, if_neg (by omega), rI, if_neg (by omega), rI, if_neg (by omega)]
    show (pI (pI (pI (pI z 143 rc (nI m)) 144 rc (nI (k + 1))) 133 13 (nI (m + 1))) 138 m (-1)).1 133 11 = _
    rw [rI, if_neg (by omega), rI, if_neg (by omega), rI, if_neg (by omega), rI, if_neg (by omega)]
    exact z11
  · rw [rI, if_neg (by omega), rI, if_neg (by omega), rI, if_neg (by omega)]
    show (pI (pI (pI (pI z 143 rc (nI m)) 144 rc (nI (k + 1))) 133 13 (nI (m + 1))) 138 m (-1)).1 133 12 = _
    rw [rI, if_neg (by omega), rI, if_neg (by omega), rI, if_neg (by omega), rI, if_neg (by omega)]
    exact z12
  · rw [rI, if_neg (by omega), rI, if_neg (by omega), rI, if_neg (by omega)]
    show (pI (pI (pI (pI z 143 rc (nI m)) 144 rc (nI (k + 1))) 133 13 (nI (m + 1))) 138 m (-1)).1 133 13 = _
    rw [rI, if_neg (by omega), rI, if_pos ⟨rfl, rfl⟩]
  · rw [rI, if_neg (by omega), rI, if_neg (by omega), rI, if_neg (by omega)]
    show (pI (pI (pI (pI z 143 rc (nI m)) 144 rc (nI (k + 1))) 133 13 (nI (m + 1))) 138 m (-1)).1 144 rc = _
    rw [rI, if_neg (by omega), rI, if_neg (by omega), rI, if_pos ⟨rfl, rfl⟩]
  · rw [rI, if_neg (by omega), rI, if_neg (by omega), rI, if_neg (by omega)]
    show (pI (pI (pI (pI z 143 rc (nI m)) 144 rc (nI (k + 1))) 133 13 (nI (m + 1))) 138 m (-1)).1 143 rc = _
    rw [rI, if_neg (by omega), rI, if_neg (by omega), rI, if_neg (by omega), rI, if_pos ⟨rfl, rfl⟩]
  · rw [rI, if_neg (by omega), rI, if_neg (by omega), rI, if_neg (by omega)]
    show (pI (pI (pI (pI z 143 rc (nI m)) 144 rc (nI (k + 1))) 133 13 (nI (m + 1))) 138 m (-1)).1 142 rc = _
    rw [rI, if_neg (by omega), rI, if_neg (by omega), rI, if_neg (by omega), rI, if_neg (by omega)]
    exact z142
  · rw [rI, if_neg (by omega), rI, if_neg (by omega), rI, if_neg (by omega)]
    show (pI (pI (pI (pI z 143 rc (nI m)) 144 rc (nI (k + 1))) 133 13 (nI (m + 1))) 138 m (-1)).1 138 m = _
    rw [rI, if_pos ⟨rfl, rfl⟩]
    rfl
  · have := (hl hk0).2
    rw [rI, if_neg (by omega), rI, if_neg (by omega), rI, if_neg (by omega)]
    show (pI (pI (pI (pI z 143 rc (nI m)) 144 rc (nI (k + 1))) 133 13 (nI (m + 1))) 138 m (-1)).1 138 (m - 1) = _
    rw [rI, if_neg (by omega), rI, if_neg (by omega), rI, if_neg (by omega), rI, if_neg (by omega)]
    exact z138 hk0
  · show (pL (pI (pI (pI (pI z 143 rc (nI m)) 144 rc (nI (k + 1))) 133 13 (nI (m + 1))) 138 m (-1)) 134 m nm).2 134 m = _
    rw [rL, if_pos ⟨rfl, rfl⟩]
  · rw [rI, if_neg (by omega), rI, if_pos ⟨rfl, rfl⟩]
    rfl
  · rw [rI, if_pos ⟨rfl, rfl⟩]
  · exact sx_pI (sx_pI (sx_pI (sx_pL (sx_pI (sx_pI (sx_pI (sx_pI zs (decide_eq_true (by omega))) (decide_eq_true (by omega))) (decide_eq_true (by omega))) (decide_eq_true (by omega))) (decide_eq_true (by omega))) (decide_eq_true (by omega))) (decide_eq_true (by omega))) (decide_eq_true (by omega))
/-- a new MARK of the reference -/
def nwM (u : cS) (rr k : Nat) (nm : Int64) (b : Bool) : cS := pI (pI (pI (pL u 223 (rr * 20 + k) nm) 224 (rr * 20 + k) (bI b)) 225 (rr * 20 + k) 0) 222 rr (nI (k + 1))
theorem e393 {b : Bool} (hr : rr < 1219) (hk : k < 20) (h : u.1 222 rr = nI k) : d_393 n (nI rr) nm (bI b) u = some (nwM u rr k nm b) := by
  have hib : ib (nI rr) 1219 := ib_n hr (by decide)
  have hi2 : ib (nI (rr * 20 + k)) 24380 := ib_n (by omega) (by decide)
  unfold d_393
  refine eq_wp (wpt hib ?_)
  rw [ix_n (show rr < 2147483648 by omega), h, nar_bI]
  refine wpe (show d_392 n (nI rr) (nI k) = some (nI (rr * 20 + k)) by unfold d_392; rw [show (20 : Int32) = nI 20 from rfl, pk_mul, nI_add]) (wpt hi2 ?_)
  rw [ix_n (show rr * 20 + k < 2147483648 by omega)]
  refine wpl (wpt hi2 (wpl (wpt hi2 (wpl (wpt hib (wpt hib ?_))))))
  rw [show (pI (pI (pL u 223 (rr * 20 + k) nm) 224 (rr * 20 + k) (bI b)) 225 (rr * 20 + k) 0).1 222 rr = nI k by
    rw [rI, if_neg (by omega), rI, if_neg (by omega)]
    exact h, nI_1]
  exact wpl rfl
/-- a row has a MARK of this NAME -/
def hnm (u : cS) (rr k : Nat) (v : Int64) : Bool := (ff (fun j => decide (u.2 223 (rr * 20 + j) = v)) k).isSome
theorem e229 {v : Int64} {U : Nat} (hn : 100 ≤ n) (hr : rc < 2242) (hk : k ≤ 20) (hU : U + k ≤ 4096) (h144 : c.1 144 rc = nI k) (h142 : 0 < k → c.1 142 rc = nI U) (h138 : ∀ j, j + 1 < k → c.1 138 (U + j) = nI (U + j + 1)) (h134 : ∀ j, j < k → c.2 134 (U + j) = u.2 223 (rr * 20 + j)) : d_229 n (nI rc) v c = some (bI (hnm u rr k v)) := by
  have hib : ib (nI rc) 2242 := ib_n hr (by decide)
  have hix : ix (nI rc) = rc := ix_n (by omega)
  unfold d_229
  refine eq_wp (wpt hib ?_)
  rw [hix]
  refine wpl ?_
  refine wpc (K' := fun r : Unit ⊕ Unit => r = if hnm u rr k v = true then .inr () else .inl ()) (whl_cnt (fun j (st : Int32 × Int32) => (j < k → st.1 = nI (U + j)) ∧ st.2 = nI j ∧ ∀ l, l < j → u.2 223 (rr * 20 + l) ≠ v) k ?_ ?_ (by omega) ⟨fun h => h142 h, rfl, fun l hl => absurd hl (Nat.not_lt_zero _)⟩) ?_
  · rintro j ⟨a, b⟩ hj ⟨g1, g2, g3⟩
    dsimp only at g1 g2 g3
    have g1 := g1 hj
    subst g1 g2
    dsimp only
    refine wpt hib ?_
    rw [h144]
    refine wpf (by simp (disch := first | omega | decide) only [↓neg1, nlit, rI, rL, rI2, rL1, nI_add, pk_mul, sbT, dvT, nmd, ixT, ↓ibT, ltT, ltF, leT, leF, eqT, eqF, nM_ltT, nM_ltF, nM_leT, nM_leF, nM_eqF, nM_eqF', nbT0, nbT1, oI_s, oI_n, natF, natT, nltT, nltF, nleT, nleF, ↓reduceIte, lgc, not_true_eq_false, not_false_eq_true, or_false, false_or, or_true, true_or, and_true, true_and, and_false, false_and, ne_eq, eq_self, or_self, and_self]) (wpt (ib_n (by omega) (by decide)) ?_)
    rw [ix_n (show U + j < 2147483648 by omega), h134 j hj]
    by_cases e : u.2 223 (rr * 20 + j) = v
    · refine wpt (by rw [e]; exact lg_self) ?_
      have : hnm u rr k v = true := by
        unfold hnm
        cases hf : ff (fun j => decide (u.2 223 (rr * 20 + j) = v)) k with
        | some _ => rfl
        | none => exact absurd e (of_decide_eq_false (ff_none hf j hj))
      show Sum.inr () = _
      rw [this]
      rfl
    · refine wpf (fun z => e (lg_eq z)) (wpt (ib_n (by omega) (by decide)) (wpl (wpl ⟨fun hj1 => h138 j hj1, nI_1 j, fun l hl => ?_⟩)))
      by_cases el : l = j
      · rw [el]
        exact e
      · exact g3 l (by omega)
  · rintro ⟨a, b⟩ ⟨g1, g2, g3⟩
    dsimp only at g2 g3
    subst g2
    dsimp only
    refine wpt hib ?_
    rw [h144]
    refine wpt (by simp (disch := first | omega | decide) only [↓neg1, nlit, rI, rL, rI2, rL1, nI_add, pk_mul, sbT, dvT, nmd, ixT, ↓ibT, ltT, ltF, leT, leF, eqT, eqF, nM_ltT, nM_ltF, nM_leT, nM_leF, nM_eqF, nM_eqF', nbT0, nbT1, oI_s, oI_n, natF, natT, nltT, nltF, nleT, nleF, ↓reduceIte, lgc, not_true_eq_false, not_false_eq_true, or_false, false_or, or_true, true_or, and_true, true_and, and_false, false_and, ne_eq, eq_self, or_self, and_self]) ?_
    have : hnm u rr k v = false := by
      unfold hnm
      cases hf : ff (fun j => decide (u.2 223 (rr * 20 + j) = v)) k with
      | none => rfl
      | some l => exact absurd (of_decide_eq_true (ff_some hf).2.1) (g3 l (ff_some hf).1)
    show Sum.inl () = _
    rw [this]
    rfl
  · rintro r rfl
    cases hnm u rr k v with
    | true => exact rfl
    | false => exact rfl
theorem e395 {v : Int64} (hn : 100 ≤ n) (hr : rr < 1219) (hk : k ≤ 20) : d_395 n (nI rr) (nI k) v u = some (bI (hnm u rr k v)) := by
  have hsom : ∀ q, hnm u rr (q + 1) v = (hnm u rr q v || decide (u.2 223 (rr * 20 + q) = v)) := fun q => by
    unfold hnm
    cases h1 : ff (fun q => decide (u.2 223 (rr * 20 + q) = v)) q with
    | some l => rw [ff_add h1 (fun _ _ => rfl)]; rfl
    | none =>
      by_cases e : u.2 223 (rr * 20 + q) = v
      · rw [ff_new (ff_none h1) (decide_eq_true e), decide_eq_true e]
        rfl
      · rw [decide_eq_false e]
        cases h2 : ff (fun q => decide (u.2 223 (rr * 20 + q) = v)) (q + 1) with
        | none => rfl
        | some l =>
          obtain ⟨z1, z2, -⟩ := ff_some h2
          by_cases el : l = q
          · rw [el] at z2
            exact absurd (of_decide_eq_true z2) e
          · have := ff_none h1 l (by omega)
            rw [z2] at this
            cases this
  unfold d_395
  refine eq_wp (wpc (K' := fun r : Int32 => r = bI (hnm u rr k v)) (whl_cnt (fun q (st : Int32 × Int32) => st = (bI (hnm u rr q v), nI q)) k ?_ ?_ (by omega) rfl) (fun r hr => wpt (by rw [hr]; exact bI_nb) hr))
  · rintro q st hq rfl
    dsimp only
    refine wpf (by simp (disch := first | omega | decide) only [↓neg1, nlit, rI, rL, rI2, rL1, nI_add, pk_mul, sbT, dvT, nmd, ixT, ↓ibT, ltT, ltF, leT, leF, eqT, eqF, nM_ltT, nM_ltF, nM_leT, nM_leF, nM_eqF, nM_eqF', nbT0, nbT1, oI_s, oI_n, natF, natT, nltT, nltF, nleT, nleF, ↓reduceIte, lgc, not_true_eq_false, not_false_eq_true, or_false, false_or, or_true, true_or, and_true, true_and, and_false, false_and, ne_eq, eq_self, or_self, and_self]) (wpjQ (fun r : Int32 => r = bI (hnm u rr (q + 1) v)) ?_ ?_)
    · rintro r rfl
      refine wpl ?_
      rw [nI_1]
      exact rfl
    · intro Q' k' hk'
      rw [hsom] at hk'
      refine wpj ?_
      cases e : hnm u rr q v with
      | true => exact wpf (by decide) (hk' 1 (by rw [e]; rfl))
      | false =>
        refine wpt rfl (wpe (show d_392 n (nI rr) (nI q) = some (nI (rr * 20 + q)) by unfold d_392; rw [show (20 : Int32) = nI 20 from rfl, pk_mul, nI_add]) (wpt (ib_n (by omega) (by decide)) ?_))
        rw [ix_n (by omega)]
        by_cases e2 : u.2 223 (rr * 20 + q) = v
        · exact wpt (by rw [e2]; exact lg_self) (hk' 1 (by rw [e, decide_eq_true e2]; rfl))
        · exact wpf (fun z => e2 (lg_eq z)) (hk' 0 (by rw [e, decide_eq_false e2]; rfl))
  · rintro st rfl
    exact wpt (by dsimp only; simp (disch := first | omega | decide) only [↓neg1, nlit, rI, rL, rI2, rL1, nI_add, pk_mul, sbT, dvT, nmd, ixT, ↓ibT, ltT, ltF, leT, leF, eqT, eqF, nM_ltT, nM_ltF, nM_leT, nM_leF, nM_eqF, nM_eqF', nbT0, nbT1, oI_s, oI_n, natF, natT, nltT, nltF, nleT, nleF, ↓reduceIte, lgc, not_true_eq_false, not_false_eq_true, or_false, false_or, or_true, true_or, and_true, true_and, and_false, false_and, ne_eq, eq_self, or_self, and_self]) rfl
end APP
