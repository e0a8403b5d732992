/-! READING MARKS: what stands behind the NAME, both -/
section BDY
variable {n i N x y t k rr k0 l o E : Nat} {c d u w : cS} {K P : Nat → Nat} {V : Nat → Int64} {b : Bool}
/-- a MARK whose NAME and what stands behind are read -/
def MGD (d q : cS) (x y t : Nat) (b : Bool) : Prop := (b = true ∧ d.1 136 x = nM ∧ q.1 225 y = nI 0) ∨ (b = false ∧ 100 ≤ t ∧ d.1 136 x = nI 1 ∧ q.1 225 y = nI 1 ∧ d.2 139 (x * 4) = 24948 ∧ q.2 226 (y * 4) = 24948 ∧ d.1 140 (x * 4) = nI 3 ∧ q.1 227 (y * 4) = nI 3 ∧ d.2 141 (x * 4) = q.2 228 (y * 4) ∧ ∃ e, eOp q (t - 100) (eln q (t - 100)) (q.2 228 (y * 4)) = some e) ∨ (b = false ∧ t < 100 ∧ ∃ p, PRD d q x y t p ∧ ∀ j, j < kn q t → msg q y t p j = true)
def BDP (K P : Nat → Nat) (V : Nat → Int64) (N : Nat) (c u : cS) (x y t j k0 : Nat) (b : Bool) (r : (Int32 × cS) ⊕ (cS ⊕ (cS ⊕ cS))) (q : cS) : Prop := (∃ d j', r = .inl (nI (k0 + 1), d) ∧ j ≤ j' ∧ PSI K P V N d q j' ∧ MGD d q x y t b ∧ sx (qMPc x) c d ∧ sx (qMPu y) u q) ∨ (∃ z, r = .inr (.inr (.inr z)) ∧ FLR c u z q)
theorem e276 (hn : 1000 ≤ n) (hE : E ≤ 12) (h : PSI K P V N c u i) (h1 : c.1 (oA o) 1 = nI E) (h5 : ∀ e, e < E → c.2 (oA o + 1) e = u.2 183 (12 * o + e)) : d_276 n o c = some (if K i = 1 then (match eOp u o E (V i) with | some e => .inl (nI e, atC c (i + 1)) | none => .inr (flC c 5 (nI (P i)))) else .inr (flC c 2 (nI (P i)))) := by
  have h259 := e259 (n := n) h
  by_cases e1 : K i = 1
  · rw [if_pos e1] at h259 ⊢
    have h235 := e235p (n := n) (v := V i) (by omega) hE h1 h5
    cases he : eOp u o E (V i) with
    | some e =>
      have hel := (ff_some he).1
      rw [he] at h235
      unfold d_276
      refine eq_wp (wpe h259 (wpSl (wpe h235 (wpj (wpt (nI_pos' (by omega)) ?_)))))
      dsimp only
      rw [h.2.2.1, nI_1]
      exact wpl rfl
    | none =>
      rw [he] at h235
      unfold d_276
      exact eq_wp (wpe h259 (wpSl (wpe h235 (wpj (wpf (by decide) (wpe (e42 h) (wpe e41 rfl)))))))
  · rw [if_neg e1] at h259 ⊢
    unfold d_276
    exact eq_wp (wpe h259 (wpSr rfl))
/-- a MARK of an ORDER, the reference -/
theorem od_r {Q : cS → Prop} (hn : 1000 ≤ n) (ho : o < 4) (hE : E ≤ 12) (hy : y < 24380) (h : PSI K P V N c u i) (h182 : u.1 182 o = nI E) (h225 : u.1 225 y = nI 0)
  (k1 : ¬ K i = 46 → Q (flt u 2 (nI (P i)))) (k2 : K i = 46 → ¬ K (i + 1) = 1 → Q (flt (atR u (i + 1)) 2 (nI (P (i + 1))))) (k3 : K i = 46 → K (i + 1) = 1 → eOp u o E (V (i + 1)) = none → Q (flt (atR (atR u (i + 1)) (i + 1 + 1)) 5 (nI (P (i + 1))))) (k4 : ∀ e, K i = 46 → K (i + 1) = 1 → eOp u o E (V (i + 1)) = some e → Q (adR (atR (atR u (i + 1)) (i + 1 + 1)) y 0 24948 (nI 3) (V (i + 1)))) : wp (odR n (nI y) (nI o) u) Q := by
  have h380 := e380 (n := n) (b := 46) h (by decide) (by decide)
  unfold odR
  by_cases e46 : K i = 46
  · rw [if_pos e46] at h380
    have hP1 := PSI_s h (by omega)
    have hk1 := PSI_K hP1
    have h381 := e381 (n := n) hP1
    refine wpe h380 ?_
    rw [hP1.2.2.2.1]
    refine wpl ?_
    by_cases e1 : K (i + 1) = 1
    · rw [if_pos e1] at h381
      have hP2 := PSI_s hP1 (by omega)
      have U : ∀ A j, A ≠ 174 → (atR (atR u (i + 1)) (i + 1 + 1)).1 A j = u.1 A j := fun A j z => by
        unfold atR
        rw [rI, if_neg (by omega), rI, if_neg (by omega)]
      have h377 : d_377 n (nI o) (V (i + 1)) (atR (atR u (i + 1)) (i + 1 + 1)) = some (oI (eOp u o E (V (i + 1)))) := e377p (by omega) ho hE (by rw [U _ _ (by omega)]; exact h182)
      have a9 : (atR (atR u (i + 1)) (i + 1 + 1)).1 179 (ix (nI (i + 1))) = nI (P (i + 1)) := by
        rw [ix_n (by omega), U _ _ (by omega)]
        have := (hP1.1.2.2.1 (i + 1) hP1.2.1).2.2.1
        unfold atR at this
        rw [rI, if_neg (by omega)] at this
        exact this
      refine wpe h381 (wpj (wpt hP2.2.2.2.2 (wpe h377 ?_)))
      cases he : eOp u o E (V (i + 1)) with
      | some e =>
        have hel := (ff_some he).1
        refine wpt (nI_pos' (by omega)) (wpj (wpt hP2.2.2.2.2 ?_))
        exact wpe (e394 (p := 0) hy (by decide) (by rw [U _ _ (by omega)]; exact h225)) (k4 e e46 e1 he)
      | none =>
        refine wpf (by decide) (wpt (ib_n (by omega) (by decide)) ?_)
        dsimp only
        rw [a9]
        exact wpe (e97 hP2.2.2.2.2) (wpj (wpf (by rw [(flt_at (u := atR (atR u (i + 1)) (i + 1 + 1))).1]; decide) (k3 e46 e1 he)))
    · rw [if_neg e1] at h381
      have f1 := (flt_at (u := atR u (i + 1)) (a := 2) (f := nI (P (i + 1)))).1
      exact wpe h381 (wpj (wpf (by rw [f1]; decide) (wpj (wpf (by rw [f1]; decide) (k2 e46 e1)))))
  · rw [if_neg e46] at h380
    have f1 := (flt_at (u := u) (a := 2) (f := nI (P i))).1
    exact wpe h380 (wpl (wpe (e381w f1) (wpj (wpf (by rw [f1]; decide) (wpj (wpf (by rw [f1]; decide) (k1 e46)))))))
theorem bdy_go {v9 v11 : Int32} (hn : 10000 ≤ n) (hx : x < 4096) (hr : rr < 1219) (hk : k < 20) (h : PSI K P V N c u (l + 1)) (h135 : c.1 135 x = nI t) (h136 : c.1 136 x = if b = true then nM else nI 0) (h222 : u.1 222 rr = nI (k + 1)) (h225 : u.1 225 (rr * 20 + k) = nI 0)
  (hkd : t < 100 → t < 12 ∧ RK c u t ∧ v9 = nM ∧ v11 = nI t) (hor : 100 ≤ t → ∃ o, o < 4 ∧ t = 100 + o ∧ v9 = nI o ∧ eln u o ≤ 12 ∧ u.1 182 o = nI (eln u o) ∧ c.1 (oA o) 1 = nI (eln u o) ∧ ∀ e, e < eln u o → c.2 (oA o + 1) e = u.2 183 (12 * o + e)) :
  jw (bdC n (nI k0) (nI x, c)) (m5R n (nI rr) (bI b) v9 v11 (nI l) u) (BDP K P V N c u x (rr * 20 + k) t (l + 1) k0 b) := by
  have hkK := PSI_K h
  have hy : rr * 20 + k < 24380 := by omega
  have him : ib (nI x) 4096 := ib_n hx (by decide)
  have hix : ix (nI x) = x := ix_n (by omega)
  have h227 : d_227 n (nI x) c = some (bI b) := by
    unfold d_227
    refine eq_wp (wpt him (wpj ?_))
    rw [hix, h136]
    cases b with
    | true => exact wpf (by decide) (wpt (show nb (1 : Int32) by decide) rfl)
    | false => exact wpt (by decide) (wpt (show nb (0 : Int32) by decide) rfl)
  have h392 : d_392 n (nI rr) (nI (k + 1) - 1) = some (nI (rr * 20 + k)) := by
    unfold d_392
    rw [show nI (k + 1) - 1 = nI k by rw [← nI_1]; simp, show (20 : Int32) = nI 20 from rfl, pk_mul, nI_add]
  cases b with
  | true =>
    refine jw_of (a := .inl (nI (k0 + 1), c)) (b := u) ?_ ?_ (Or.inl ⟨c, l + 1, rfl, Nat.le_refl _, h, Or.inl ⟨rfl, h136, h225⟩, sx_rfl, sx_rfl⟩)
    · unfold bdC
      refine eq_wp (wpe h227 (wpj (wpf (by decide) (wpl ?_))))
      rw [nI_1]
      rfl
    · unfold m5R
      exact eq_wp (wpf (by decide) rfl)
  | false =>
    rw [if_neg (by decide)] at h136
    have hm5 : ∀ {Q : cS → Prop}, wp (if v9 < 0 then kdR n (nI (rr * 20 + k)) v11 (nI l) u else odR n (nI (rr * 20 + k)) v9 u) Q → wp (m5R n (nI rr) (bI false) v9 v11 (nI l) u) Q := fun {Q} hQ => by
      unfold m5R
      refine wpt rfl (wpt (ib_n hr (by decide)) ?_)
      rw [ix_n (show rr < 2147483648 by omega), h222]
      exact wpe h392 hQ
    by_cases e100 : t < 100
    · obtain ⟨t1, t2, t3, t4⟩ := hkd e100
      have hD : PRD c u x (rr * 20 + k) t 0 := ⟨by omega, h136, h225, fun q hq => absurd hq (Nat.not_lt_zero _)⟩
      obtain ⟨a, q, a1, a2, a3⟩ := jw_ex (knd_go hn hx hy t1 t2 h hD)
      have hR : wp (m5R n (nI rr) (bI false) v9 v11 (nI l) u) (fun z => z = q) := hm5 (wpt (by rw [t3]; decide) (wp_of (by rw [t4]; exact a2) rfl))
      refine jw_of (a := Sum.elim (fun r15 => Sum.inl (nI (k0 + 1), r15)) (fun z16 => Sum.inr (Sum.inr (Sum.inr z16))) a) (b := q) ?_ (eq_wp hR) ?_
      · unfold bdC
        refine eq_wp (wpe h227 (wpj (wpt rfl (wpt him ?_))))
        dsimp only
        rw [hix, h135]
        refine wpt (by simp (disch := first | omega | decide) only [↓neg1, nlit, rI, rL, rI2, rL1, nI_add, pk_mul, sbT, dvT, nmd, ixT, ↓ibT, ltT, ltF, leT, leF, eqT, eqF, nM_ltT, nM_ltF, nM_leT, nM_leF, nM_eqF, nM_eqF', nbT0, nbT1, oI_s, oI_n, natF, natT, nltT, nltF, nleT, nleF, ↓reduceIte, lgc, not_true_eq_false, not_false_eq_true, or_false, false_or, or_true, true_or, and_true, true_and, and_false, false_and, ne_eq, eq_self, or_self, and_self]) (wpt him (wpt (ib_n t1 (by decide)) ?_))
        rw [ix_n (show t < 2147483648 by omega)]
        refine wpe a1 ?_
        cases a with
        | inl r =>
          refine wpSl (wpl ?_)
          rw [nI_1]
          rfl
        | inr z => exact wpSr rfl
      · rcases a3 with ⟨d, j, p, rfl, b1, b2, b3, b4, b5, b6⟩ | ⟨z, rfl, hf⟩
        · exact Or.inl ⟨d, j, rfl, b1, b2, Or.inr (Or.inr ⟨rfl, e100, p, b3, b4⟩), b5, b6⟩
        · exact Or.inr ⟨z, rfl, hf⟩
    · obtain ⟨o, o1, o2, o3, o4, o5, o6, o7⟩ := hor (by omega)
      have hC : ∀ {Q : ((Int32 × cS) ⊕ (cS ⊕ (cS ⊕ cS))) → Prop}, (¬ K (l + 1) = 46 → Q (.inr (.inr (.inr (flC c 2 (nI (P (l + 1)))))))) → (K (l + 1) = 46 → ¬ K (l + 1 + 1) = 1 → Q (.inr (.inr (.inr (flC (atC c (l + 1 + 1)) 2 (nI (P (l + 1 + 1)))))))) → (K (l + 1) = 46 → K (l + 1 + 1) = 1 → eOp u o (eln u o) (V (l + 1 + 1)) = none → Q (.inr (.inr (.inr (flC (atC c (l + 1 + 1)) 5 (nI (P (l + 1 + 1)))))))) → (∀ e, K (l + 1) = 46 → K (l + 1 + 1) = 1 → eOp u o (eln u o) (V (l + 1 + 1)) = some e → Q (.inl (nI (k0 + 1), adC (atC (atC c (l + 1 + 1)) (l + 1 + 1 + 1)) x 0 24948 (nI 3) (V (l + 1 + 1))))) → wp (bdC n (nI k0) (nI x, c)) Q := fun {Q} q1 q2 q3 q4 => by
        have h257 := e257 (n := n) (b := 46) h (by decide)
        unfold bdC
        refine wpe h227 (wpj (wpt rfl (wpt him ?_)))
        dsimp only
        rw [hix, h135]
        refine wpf (by simp (disch := first | omega | decide) only [↓neg1, nlit, rI, rL, rI2, rL1, nI_add, pk_mul, sbT, dvT, nmd, ixT, ↓ibT, ltT, ltF, leT, leF, eqT, eqF, nM_ltT, nM_ltF, nM_leT, nM_leF, nM_eqF, nM_eqF', nbT0, nbT1, oI_s, oI_n, natF, natT, nltT, nltF, nleT, nleF, ↓reduceIte, lgc, not_true_eq_false, not_false_eq_true, or_false, false_or, or_true, true_or, and_true, true_and, and_false, false_and, ne_eq, eq_self, or_self, and_self]) ?_
        by_cases e46 : K (l + 1) = 46
        · rw [if_pos e46] at h257
          have hP1 := PSI_s h (by omega)
          have hk1 := PSI_K hP1
          have C1 : ∀ A j, A ≠ 145 → (atC c (l + 1 + 1)).1 A j = c.1 A j := fun A j z => by
            unfold atC
            rw [rI, if_neg (by omega)]
          refine wpe h257 (wpSl (wpt him ?_))
          rw [C1 135 x (by omega), h135, show nI t - 100 = nI o by rw [o2, show (100 : Int32) = nI 100 from rfl, pk_sub (by omega)]; congr 1; omega]
          refine wpt (ib_n o1 (by decide)) ?_
          rw [ix_n (show o < 2147483648 by omega)]
          have h276 := e276 (n := n) (o := o) (E := eln u o) (c := atC c (l + 1 + 1)) (u := atR u (l + 1 + 1)) (by omega) o4 hP1 (by rw [C1 _ _ (by unfold oA; omega)]; exact o6) o7
          by_cases e1 : K (l + 1 + 1) = 1
          · rw [if_pos e1, show eOp (atR u (l + 1 + 1)) o (eln u o) (V (l + 1 + 1)) = eOp u o (eln u o) (V (l + 1 + 1)) from rfl] at h276
            cases he : eOp u o (eln u o) (V (l + 1 + 1)) with
            | some e =>
              rw [he] at h276
              have hP2 := PSI_s hP1 (by omega)
              have hv := val_at hP1 e1
              refine wpe h276 (wpSl (wpe (e351at' (by omega)) ?_))
              dsimp only
              rw [hP2.2.2.1, show nI (l + 1 + 1 + 1) - 1 = nI (l + 1 + 1) by rw [← nI_1]; simp]
              refine wpt (ib_n (by omega) (by decide)) ?_
              rw [ix_n (show l + 1 + 1 < 2147483648 by omega), show (atC (atC c (l + 1 + 1)) (l + 1 + 1 + 1)).2 5 (l + 1 + 1) = V (l + 1 + 1) from hv.1]
              have C2 : (atC (atC c (l + 1 + 1)) (l + 1 + 1 + 1)).1 136 x = nI 0 := by
                unfold atC
                rw [rI, if_neg (by omega), rI, if_neg (by omega)]
                exact h136
              refine wpe (e225 (s := 3) (p := 0) hx (by decide) C2 (by decide)) (wpl ?_)
              rw [nI_1]
              exact q4 e e46 e1 he
            | none =>
              rw [he] at h276
              exact wpe h276 (wpSr (q3 e46 e1 he))
          · rw [if_neg e1] at h276
            exact wpe h276 (wpSr (q2 e46 e1))
        · rw [if_neg e46] at h257
          exact wpe h257 (wpSr (q1 e46))
      have hRo : ∀ {Q : cS → Prop}, wp (odR n (nI (rr * 20 + k)) (nI o) u) Q → wp (m5R n (nI rr) (bI false) v9 v11 (nI l) u) Q := fun {Q} hQ => hm5 (wpf (by rw [o3]; exact nI_pos (by omega)) (by rw [o3]; exact hQ))
      unfold jw
      refine hC (fun z1 => hRo (od_r (by omega) o1 o4 hy h o5 h225 (fun _ => Or.inr ⟨_, rfl, FLR_of sx_rfl sx_rfl⟩) (fun w => absurd w z1) (fun w => absurd w z1) (fun _ w => absurd w z1))) (fun z1 z2 => hRo (od_r (by omega) o1 o4 hy h o5 h225 (fun w => absurd z1 w) (fun _ _ => Or.inr ⟨_, rfl, FLR_of atC_sx atR_sx⟩) (fun _ w => absurd w z2) (fun _ _ w => absurd w z2))) (fun z1 z2 z3 => hRo (od_r (by omega) o1 o4 hy h o5 h225 (fun w => absurd z1 w) (fun _ w => absurd z2 w) (fun _ _ _ => Or.inr ⟨_, rfl, FLR_of atC_sx (sx_trans atR_sx atR_sx)⟩) (fun e _ _ w => by rw [z3] at w; cases w))) (fun e z1 z2 z3 => hRo (od_r (by omega) o1 o4 hy h o5 h225 (fun w => absurd z1 w) (fun _ w => absurd z2 w) (fun _ _ w => by rw [z3] at w; cases w) (fun e' _ _ _ => ?_)))
      have hP1 := PSI_s h (by omega)
      have hP2 := PSI_s hP1 (by omega)
      refine Or.inl ⟨_, l + 1 + 1 + 1, rfl, by omega, ?_, Or.inr (Or.inl ⟨rfl, by omega, ?_⟩), sx_trans (sx_pI (sx_pI sx_rfl (decide_eq_true (by omega))) (decide_eq_true (by omega))) (adC_sx (by decide)), sx_trans (sx_pI (sx_pI sx_rfl (decide_eq_true (by omega))) (decide_eq_true (by omega))) (adR_sx (by decide))⟩
      · exact PSI_sx hP2 (r := fun A l => decide (A = 136 ∨ (139 ≤ A ∧ A ≤ 141))) (q := fun A l => decide (225 ≤ A ∧ A ≤ 228)) (sx_pI (sx_pL (sx_pI (sx_pL sx_rfl (by decide)) (by decide)) (by decide)) (by decide)) (sx_pI (sx_pL (sx_pI (sx_pL sx_rfl (by decide)) (by decide)) (by decide)) (by decide)) (fun A l z => decide_eq_false (by omega)) (fun A l z => decide_eq_false (by omega))
      · obtain ⟨g1, g2, g3, g4⟩ := adC_at (c := atC (atC c (l + 1 + 1)) (l + 1 + 1 + 1)) (x := x) (p := 0) (nm := 24948) (s := nI 3) (v := V (l + 1 + 1)) (j := x * 4)
        obtain ⟨f1, f2, f3, f4⟩ := adR_at (u := atR (atR u (l + 1 + 1)) (l + 1 + 1 + 1)) (y := rr * 20 + k) (p := 0) (nm := 24948) (s := nI 3) (v := V (l + 1 + 1)) (j := (rr * 20 + k) * 4)
        rw [if_pos (by omega)] at g1 g2 g3 f1 f2 f3
        refine ⟨g4, f4, g1, f1, g2, f2, g3.trans f3.symm, e, ?_⟩
        rw [f3, show t - 100 = o by omega]
        have sR : sx (qMPu (rr * 20 + k)) (atR (atR u (l + 1 + 1)) (l + 1 + 1 + 1)) (adR (atR (atR u (l + 1 + 1)) (l + 1 + 1 + 1)) (rr * 20 + k) 0 24948 (nI 3) (V (l + 1 + 1))) := adR_sx (by decide)
        have e1 : eln (adR (atR (atR u (l + 1 + 1)) (l + 1 + 1 + 1)) (rr * 20 + k) 0 24948 (nI 3) (V (l + 1 + 1))) o = eln u o := by
          unfold eln
          rw [sR.1 182 o (decide_eq_false (by omega))]
          unfold atR
          rw [rI, if_neg (by omega), rI, if_neg (by omega)]
        rw [e1]
        have e2 : ∀ j, (adR (atR (atR u (l + 1 + 1)) (l + 1 + 1 + 1)) (rr * 20 + k) 0 24948 (nI 3) (V (l + 1 + 1))).2 183 j = u.2 183 j := fun j => sR.2 183 j (decide_eq_false (by omega))
        unfold eOp at z3 ⊢
        rw [show (fun e => decide ((adR (atR (atR u (l + 1 + 1)) (l + 1 + 1 + 1)) (rr * 20 + k) 0 24948 (nI 3) (V (l + 1 + 1))).2 183 (12 * o + e) = V (l + 1 + 1))) = (fun e => decide (u.2 183 (12 * o + e) = V (l + 1 + 1))) from funext fun j => by rw [e2]]
        exact z3
end BDY
