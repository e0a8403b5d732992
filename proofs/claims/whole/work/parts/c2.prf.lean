/-! RUN: plain ACTS performed -/
def qPc (a i : Nat) : Bool := decide (a = 165 ∨ a = 166 ∨ (a = 162 ∧ i = 10) ∨ (a = 159 ∧ i = 5) ∨ a = 161)
def qPo (a i : Nat) : Bool := decide ((256 ≤ a ∧ a ≤ 259) ∨ (a = 174 ∧ (i = 128 ∨ i = 110)) ∨ a = 252)
def qPr2 (f : Nat) (a i : Nat) : Bool := decide ((a = 254 ∧ i = f) ∨ (a = 255 ∧ i = f) ∨ (256 ≤ a ∧ a ≤ 259) ∨ (a = 174 ∧ (i = 128 ∨ i = 110)) ∨ a = 252)
theorem nP_Po : nP qPo := by
  refine ⟨fun a i h => ?_, fun i h => ?_, fun i h => ?_, fun a i h1 h2 h3 => ?_, fun a i h1 h2 h3 => ?_⟩
  · have := PA_of h
    exact decide_eq_false (by omega)
  · have := PF_of h
    exact decide_eq_false (by omega)
  · exact decide_eq_false (by omega)
  · exact decide_eq_false (by omega)
  · exact decide_eq_false (by omega)
theorem nC_Pc : nC qPc := ⟨fun a i h1 h2 h3 => decide_eq_false (by omega), fun i h => decide_eq_false (by omega)⟩
/-- slots, fields, notes and inputs are alike -/
def VAL (m c u : cS) (N : Nat) : Prop := (∀ q, q < N → SLq m c u q) ∧ (∀ x y, x < ccn m → y < fM m x → SLf m c u (8 * x + y)) ∧ c.1 162 10 = u.1 174 128 ∧ JI c u
theorem SL_cg {m : cS} {x x' : Int64} {v v' : Int32} {k k' : Nat → Int32} (h : SL m x v k) (hx : x' = x) (hv : v' = v) (hk : ∀ o, o < ocn m → k' o = k o) : SL m x' v' k' := by
  subst hx hv
  exact ⟨h.1, fun o ho => ⟨(h.2 o ho).1, (hk o ho).trans (h.2 o ho).2⟩⟩
theorem JI_sx {c u d w : cS} {r q : Nat → Nat → Bool} (h : JI c u) (hd : sx r c d) (hw : sx q u w) (h1 : r 159 5 = false) (h2 : ∀ i, r 161 i = false) (h3 : q 174 110 = false) (h4 : ∀ i, q 252 i = false) : JI d w := by
  obtain ⟨t, t1, t2, t3, t4⟩ := h
  exact ⟨t, t1, (hd.1 159 5 h1).trans t2, (hw.1 174 110 h3).trans t3, fun i hi => by rw [hd.1 161 i (h2 i), hw.1 252 i (h4 i)]; exact t4 i hi⟩
section VS
variable {m c u d w : cS} {N q : Nat}
/-- a slot is set in both -/
theorem VAL_slot {x : Int64} (h : VAL m c u N) (hO : ocn m ≤ 4) (hd : d = pL c 165 q x) (hw : sx (q57 q) u w) (hx : SL m x (w.1 256 q) (fun o => w.1 257 (4 * q + o))) : VAL m d w N := by
  subst hd
  obtain ⟨h1, h2, h3, h4⟩ := h
  refine ⟨fun p hp => ?_, fun a b ha hb => ?_, ?_, JI_sx (r := fun a i => decide (a = 165)) h4 (sx_pL sx_rfl rfl) hw rfl (fun i => rfl) (decide_eq_false (by omega)) (fun i => decide_eq_false (by omega))⟩
  · by_cases e : p = q
    · subst e
      unfold SLq
      rw [rL, if_pos ⟨rfl, rfl⟩]
      exact hx
    · refine SL_cg (h1 p hp) ?_ ?_ (fun o ho => ?_)
      · rw [rL, if_neg (fun z => e z.2)]
      · exact hw.1 256 p (decide_eq_false (by omega))
      · exact hw.1 257 _ (decide_eq_false (by omega))
  · refine SL_cg (h2 a b ha hb) ?_ ?_ (fun o ho => ?_)
    · rw [rL, if_neg (by omega)]
    · exact hw.1 258 _ (decide_eq_false (by omega))
    · exact hw.1 259 _ (decide_eq_false (by omega))
  · show c.1 162 10 = _
    rw [hw.1 174 128 (decide_eq_false (by omega))]
    exact h3
/-- a field is set in both -/
theorem VAL_fld {x : Int64} {k : Nat} (h : VAL m c u N) (hO : ocn m ≤ 4) (hd : d = pL c 166 k x) (hw : sx (fun A i => decide ((A = 258 ∧ i = k) ∨ (A = 259 ∧ 4 * k ≤ i ∧ i < 4 * k + 4))) u w) (hx : SL m x (w.1 258 k) (fun o => w.1 259 (4 * k + o))) : VAL m d w N := by
  subst hd
  obtain ⟨h1, h2, h3, h4⟩ := h
  refine ⟨fun p hp => ?_, fun a b ha hb => ?_, ?_, JI_sx (r := fun a i => decide (a = 166)) h4 (sx_pL sx_rfl rfl) hw rfl (fun i => rfl) (decide_eq_false (by omega)) (fun i => decide_eq_false (by omega))⟩
  · refine SL_cg (h1 p hp) ?_ ?_ (fun o ho => ?_)
    · rw [rL, if_neg (by omega)]
    · exact hw.1 256 p (decide_eq_false (by omega))
    · exact hw.1 257 _ (decide_eq_false (by omega))
  · by_cases e : 8 * a + b = k
    · subst e
      unfold SLf
      rw [rL, if_pos ⟨rfl, rfl⟩]
      exact hx
    · refine SL_cg (h2 a b ha hb) ?_ ?_ (fun o ho => ?_)
      · rw [rL, if_neg (fun z => e z.2)]
      · exact hw.1 258 _ (decide_eq_false (by omega))
      · exact hw.1 259 _ (decide_eq_false (by omega))
  · show c.1 162 10 = _
    rw [hw.1 174 128 (decide_eq_false (by omega))]
    exact h3
end VS
section TR
variable {n f M i : Nat} {c m u : cS}
/-- what stands at the top, for one frame -/
def TOP (m c u : cS) (f M i : Nat) : Prop := PG c m ∧ AG m u ∧ isMt m M ∧ i < acn m M ∧ RCH m M i ∧ f < 12 ∧ u.1 255 f = nI (8 + dpn m (40 * M + i)) ∧ u.1 254 f = nI i ∧ VAL m c u (16 * (f + 1))
/-- marks told in an ACT, set by the reference -/
theorem mk_set {q a : Nat} (hn : 1000 ≤ n) (hq : q < 192) (hA : AG m u) (hO : OOS c m) (hb : 40 * M + i < 3840) (hT : TLR c m a (40 * M + i)) (h0 : ∀ o, o < ocn m → u.1 257 (4 * q + o) = m.1 188 o) : wp (whl (R := (cS)) (fun s31 : Int32 × cS =>
        if ib (nI (40 * M + i)) 3840 then
        if (s31.2.1 219 (40 * M + i)) ≤ s31.1 then
          some (.inr s31.2)
        else
          if ib ((4 * (nI (40 * M + i))) + s31.1) 15360 then
          if ib ((4 * (nI (40 * M + i))) + s31.1) 15360 then
          if ib ((4 * (nI q)) + (s31.2.1 220 (ix ((4 * (nI (40 * M + i))) + s31.1)))) 768 then
          lt (pI s31.2 257 (ix ((4 * (nI q)) + (s31.2.1 220 (ix ((4 * (nI (40 * M + i))) + s31.1))))) (s31.2.1 221 (ix ((4 * (nI (40 * M + i))) + s31.1)))) (fun c36 =>
          lt (s31.1 + 1 : Int32) (fun v39 =>
          some (.inl (v39, c36))))
          else none
          else none
          else none
        else none) n (0, u)) (fun w => (∀ o, o < ocn m → w.1 257 (4 * q + o) = nI (tlo m (40 * M + i) o (tdn m (40 * M + i)))) ∧ sx (fun A j => decide (A = 257 ∧ 4 * q ≤ j ∧ j < 4 * q + 4)) u w) := by
  obtain ⟨t1, t2, t3, t4, -⟩ := hT
  have ho4 := hO.1
  generalize 40 * M + i = b at *
  refine whl_cnt (fun k (st : Int32 × cS) => st.1 = nI k ∧ (∀ o, o < ocn m → st.2.1 257 (4 * q + o) = nI (tlo m b o k)) ∧ sx (fun A j => decide (A = 257 ∧ 4 * q ≤ j ∧ j < 4 * q + 4)) u st.2) (tdn m b) ?_ ?_ (by omega) ⟨rfl, fun o ho => ?_, sx_rfl⟩
  · rintro k ⟨k0, w⟩ hk ⟨g1, g2, g3⟩
    dsimp only at g1 g2 g3
    subst g1
    dsimp only
    obtain ⟨b1, b2, b3, b4, -⟩ := t4 k hk
    have hel := OOS_el hO b1
    have r1 : ∀ A j, A ≠ 257 → w.1 A j = u.1 A j := fun A j z => g3.1 A j (decide_eq_false (by omega))
    refine wpt (by simp (disch := first | omega | decide) only [↓neg1, nlit, rI, rL, rI2, rL1, nI_add, pk_mul, sbT, dvT, nmd, ixT, ↓ibT, ltT, ltF, leT, leF, eqT, eqF, nM_ltT, nM_ltF, nM_leT, nM_leF, nM_eqF, nM_eqF', nbT0, nbT1, oI_s, oI_n, natF, natT, nltT, nltF, nleT, nleF, ↓reduceIte, lgc, not_true_eq_false, not_false_eq_true, or_false, false_or, or_true, true_or, and_true, true_and, and_false, false_and, ne_eq, eq_self, or_self, and_self]) ?_
    rw [r1 219 _ (by decide), hA.1 219 _ rfl, t2, show (4 : Int32) * nI b + nI k = nI (4 * b + k) by rw [show (4 : Int32) = nI 4 from rfl, pk_mul, nI_add]]
    refine wpf (by simp (disch := first | omega | decide) only [↓neg1, nlit, rI, rL, rI2, rL1, nI_add, pk_mul, sbT, dvT, nmd, ixT, ↓ibT, ltT, ltF, leT, leF, eqT, eqF, nM_ltT, nM_ltF, nM_leT, nM_leF, nM_eqF, nM_eqF', nbT0, nbT1, oI_s, oI_n, natF, natT, nltT, nltF, nleT, nleF, ↓reduceIte, lgc, not_true_eq_false, not_false_eq_true, or_false, false_or, or_true, true_or, and_true, true_and, and_false, false_and, ne_eq, eq_self, or_self, and_self]) (wpt (by simp (disch := first | omega | decide) only [↓neg1, nlit, rI, rL, rI2, rL1, nI_add, pk_mul, sbT, dvT, nmd, ixT, ↓ibT, ltT, ltF, leT, leF, eqT, eqF, nM_ltT, nM_ltF, nM_leT, nM_leF, nM_eqF, nM_eqF', nbT0, nbT1, oI_s, oI_n, natF, natT, nltT, nltF, nleT, nleF, ↓reduceIte, lgc, not_true_eq_false, not_false_eq_true, or_false, false_or, or_true, true_or, and_true, true_and, and_false, false_and, ne_eq, eq_self, or_self, and_self]) (wpt (by simp (disch := first | omega | decide) only [↓neg1, nlit, rI, rL, rI2, rL1, nI_add, pk_mul, sbT, dvT, nmd, ixT, ↓ibT, ltT, ltF, leT, leF, eqT, eqF, nM_ltT, nM_ltF, nM_leT, nM_leF, nM_eqF, nM_eqF', nbT0, nbT1, oI_s, oI_n, natF, natT, nltT, nltF, nleT, nleF, ↓reduceIte, lgc, not_true_eq_false, not_false_eq_true, or_false, false_or, or_true, true_or, and_true, true_and, and_false, false_and, ne_eq, eq_self, or_self, and_self]) ?_))
    rw [ix_n (by omega), r1 220 _ (by decide), r1 221 _ (by decide), hA.1 220 _ rfl, hA.1 221 _ rfl, b3, b4, show (4 : Int32) * nI q + nI (toR m b k) = nI (4 * q + toR m b k) by rw [show (4 : Int32) = nI 4 from rfl, pk_mul, nI_add]]
    refine wpt (by simp (disch := first | omega | decide) only [↓neg1, nlit, rI, rL, rI2, rL1, nI_add, pk_mul, sbT, dvT, nmd, ixT, ↓ibT, ltT, ltF, leT, leF, eqT, eqF, nM_ltT, nM_ltF, nM_leT, nM_leF, nM_eqF, nM_eqF', nbT0, nbT1, oI_s, oI_n, natF, natT, nltT, nltF, nleT, nleF, ↓reduceIte, lgc, not_true_eq_false, not_false_eq_true, or_false, false_or, or_true, true_or, and_true, true_and, and_false, false_and, ne_eq, eq_self, or_self, and_self]) ?_
    rw [ix_n (by omega)]
    refine wpl (wpl ⟨nI_1 _, fun o ho => ?_, sx_pI g3 (decide_eq_true (by omega))⟩)
    dsimp only
    rw [rI]
    show _ = nI (if toR m b k = o then teR m b k else tlo m b o k)
    by_cases e : toR m b k = o
    · rw [if_pos ⟨rfl, by omega⟩, if_pos e]
    · rw [if_neg (by omega), if_neg e]
      exact g2 o ho
  · rintro ⟨k0, w⟩ ⟨g1, g2, g3⟩
    dsimp only at g1 g2 g3
    subst g1
    dsimp only
    refine wpt (by simp (disch := first | omega | decide) only [↓neg1, nlit, rI, rL, rI2, rL1, nI_add, pk_mul, sbT, dvT, nmd, ixT, ↓ibT, ltT, ltF, leT, leF, eqT, eqF, nM_ltT, nM_ltF, nM_leT, nM_leF, nM_eqF, nM_eqF', nbT0, nbT1, oI_s, oI_n, natF, natT, nltT, nltF, nleT, nleF, ↓reduceIte, lgc, not_true_eq_false, not_false_eq_true, or_false, false_or, or_true, true_or, and_true, true_and, and_false, false_and, ne_eq, eq_self, or_self, and_self]) ?_
    rw [g3.1 219 _ (decide_eq_false (by omega)), hA.1 219 _ rfl, t2]
    exact wpt (by simp (disch := first | omega | decide) only [↓neg1, nlit, rI, rL, rI2, rL1, nI_add, pk_mul, sbT, dvT, nmd, ixT, ↓ibT, ltT, ltF, leT, leF, eqT, eqF, nM_ltT, nM_ltF, nM_leT, nM_leF, nM_eqF, nM_eqF', nbT0, nbT1, oI_s, oI_n, natF, natT, nltT, nltF, nleT, nleF, ↓reduceIte, lgc, not_true_eq_false, not_false_eq_true, or_false, false_or, or_true, true_or, and_true, true_and, and_false, false_and, ne_eq, eq_self, or_self, and_self]) ⟨g2, g3⟩
  · rw [h0 o ho]
    exact (bot_lt hO ho).2.1
end TR
