/-! READING PAIRS: words -/
section PRS0
variable {n i N x y k p : Nat} {c d u w c' u' : cS} {K P : Nat → Nat} {V : Nat → Int64} {v : Int64}
theorem kn_cg (h : ∀ j, u'.1 190 j = u.1 190 j) : kn u' k = kn u k := by
  unfold kn
  rw [h]
theorem jOf_cg (h : ∀ j, u'.1 190 j = u.1 190 j) (h2 : ∀ j, u'.2 191 j = u.2 191 j) : jOf u' k v = jOf u k v := by
  unfold jOf
  rw [kn_cg h]
  congr 1
  funext j
  rw [h2]
theorem txt_cg {j : Nat} (h : ∀ j, u'.1 192 j = u.1 192 j) : txt u' k j = txt u k j := by
  unfold txt
  rw [h]
theorem RK_cg (h : RK c u k) (hc : ∀ A j, kA k ≤ A → A ≤ kA k + 4 → c'.1 A j = c.1 A j ∧ c'.2 A j = c.2 A j) (hu : ∀ A j, 189 ≤ A → A ≤ 197 → u'.1 A j = u.1 A j ∧ u'.2 A j = u.2 A j) : RK c' u' k := by
  have e1 : kn u' k = kn u k := kn_cg (fun j => (hu 190 j (by omega) (by omega)).1)
  have e2 : kw u' k = kw u k := by
    unfold kw
    rw [(hu 195 k (by omega) (by omega)).1]
  have e3 : ∀ j, txt u' k j = txt u k j := fun j => txt_cg (fun j => (hu 192 j (by omega) (by omega)).1)
  unfold RK at h ⊢
  rw [e1, e2, (hc (kA k) 0 (by omega) (by omega)).2, (hc (kA k) 1 (by omega) (by omega)).1, (hc (kA k) 6 (by omega) (by omega)).1, (hc (kA k) 7 (by omega) (by omega)).1, (hc (kA k) 8 (by omega) (by omega)).1, (hu 189 k (by omega) (by omega)).2, (hu 190 k (by omega) (by omega)).1, (hu 195 k (by omega) (by omega)).1, (hu 196 k (by omega) (by omega)).1, (hu 197 k (by omega) (by omega)).1]
  obtain ⟨h1, h2, h3, h4, h5, h6⟩ := h
  refine ⟨h1, h2, h3, h4, fun j hj => ?_, h6⟩
  rw [(hc (kA k + 1) j (by omega) (by omega)).2, (hc (kA k + 2) j (by omega) (by omega)).1, (hc (kA k + 3) j (by omega) (by omega)).1, (hc (kA k + 4) j (by omega) (by omega)).2, (hu 191 _ (by omega) (by omega)).2, (hu 192 _ (by omega) (by omega)).1, (hu 193 _ (by omega) (by omega)).1, (hu 194 _ (by omega) (by omega)).2, e3]
  exact h5 j hj
/-- PAIRS as far as they are read: each has the NAME of a MEMBER and its sort -/
def PRD (c u : cS) (x y k p : Nat) : Prop := p ≤ 4 ∧ c.1 136 x = nI p ∧ u.1 225 y = nI p ∧ ∀ q, q < p → c.2 139 (x * 4 + q) = u.2 226 (y * 4 + q) ∧ c.1 140 (x * 4 + q) = u.1 227 (y * 4 + q) ∧ c.2 141 (x * 4 + q) = u.2 228 (y * 4 + q) ∧ ∃ j, j < kn u k ∧ u.2 226 (y * 4 + q) = u.2 191 (4 * k + j) ∧ u.1 227 (y * 4 + q) = txt u k j ∧ (u.1 192 (4 * k + j) = nI 0 → iv (u.2 228 (y * 4 + q)))
def qMPc (x A j : Nat) : Bool := decide ((A = 145 ∧ j = 7) ∨ (A = 136 ∧ j = x) ∨ (139 ≤ A ∧ A ≤ 141 ∧ x * 4 ≤ j ∧ j < x * 4 + 4))
def qMPu (y A j : Nat) : Bool := decide ((A = 174 ∧ (j = 67 ∨ j = 68)) ∨ (A = 225 ∧ j = y) ∨ (226 ≤ A ∧ A ≤ 228 ∧ y * 4 ≤ j ∧ j < y * 4 + 4))
theorem prn_of {c u : cS} {x y k p : Nat} (h : PRD c u x y k p) : prn u y = p := by
  unfold prn
  rw [h.2.2.1, ix_n (by have := h.1; omega)]
/-- a PAIR more -/
def adC (c : cS) (x p : Nat) (nm : Int64) (s : Int32) (v : Int64) : cS := pI (pL (pI (pL c 139 (x * 4 + p) nm) 140 (x * 4 + p) s) 141 (x * 4 + p) v) 136 x (nI (p + 1))
def adR (u : cS) (y p : Nat) (nm : Int64) (s : Int32) (v : Int64) : cS := pI (pL (pI (pL u 226 (y * 4 + p) nm) 227 (y * 4 + p) s) 228 (y * 4 + p) v) 225 y (nI (p + 1))
theorem e225 {nm v : Int64} {s : Nat} (hx : x < 4096) (hp : p < 4) (h : c.1 136 x = nI p) (hs : s < 4) : d_225 n (nI x) nm (nI s) v c = some (adC c x p nm (nI s) v) := by
  have hb : vp_nar .byte (nI s).toInt8.toInt32 = nI s := by
    rw [pk_vb]
    have : ∀ s : Fin 4, (nI s.1).toInt8.toInt32 = nI s.1 := by decide
    exact this ⟨s, hs⟩
  have hib : ib (nI x) 4096 := ib_n hx (by decide)
  have hi2 : ib (nI (x * 4 + p)) 16384 := ib_n (by omega) (by decide)
  unfold d_225
  refine eq_wp (wpt hib (wpj ?_))
  rw [ix_n (show x < 2147483648 by omega), h, hb, show nI x * 4 + nI p = nI (x * 4 + p) by rw [show (4 : Int32) = nI 4 from rfl, pk_mul, nI_add]]
  refine wpf (nI_pos (by omega)) (wpt hib (wpf (by simp (disch := first | omega | decide) only [↓neg1, nlit, rI, rL, rI2, rL1, nI_add, pk_mul, sbT, dvT, nmd, ixT, ↓ibT, ltT, ltF, leT, leF, eqT, eqF, nM_ltT, nM_ltF, nM_leT, nM_leF, nM_eqF, nM_eqF', nbT0, nbT1, oI_s, oI_n, natF, natT, nltT, nltF, nleT, nleF, ↓reduceIte, lgc, not_true_eq_false, not_false_eq_true, or_false, false_or, or_true, true_or, and_true, true_and, and_false, false_and, ne_eq, eq_self, or_self, and_self]) (wpt hib (wpl (wpt hi2 ?_)))))
  rw [ix_n (show x * 4 + p < 2147483648 by omega)]
  refine wpl (wpt hi2 (wpl (wpt hi2 (wpl (wpt hib (wpt hib ?_))))))
  rw [show (pL (pI (pL c 139 (x * 4 + p) nm) 140 (x * 4 + p) (nI s)) 141 (x * 4 + p) v).1 136 x = nI p by
    show (pI (pL c 139 (x * 4 + p) nm) 140 (x * 4 + p) (nI s)).1 136 x = _
    rw [rI, if_neg (by omega)]
    exact h, nI_1]
  exact wpl rfl
theorem e394 {nm v : Int64} {s : Int32} (hy : y < 24380) (hp : p < 4) (h : u.1 225 y = nI p) : d_394 n (nI y) nm s v u = some (adR u y p nm s v) := by
  have hib : ib (nI y) 24380 := ib_n hy (by decide)
  have hi2 : ib (nI (y * 4 + p)) 97520 := ib_n (by omega) (by decide)
  unfold d_394
  refine eq_wp (wpt hib ?_)
  rw [ix_n (show y < 2147483648 by omega), h, show nI y * 4 + nI p = nI (y * 4 + p) by rw [show (4 : Int32) = nI 4 from rfl, pk_mul, nI_add]]
  refine wpl (wpt hi2 ?_)
  rw [ix_n (show y * 4 + p < 2147483648 by omega)]
  refine wpl (wpt hi2 (wpl (wpt hi2 (wpl (wpt hib (wpt hib ?_))))))
  rw [show (pL (pI (pL u 226 (y * 4 + p) nm) 227 (y * 4 + p) s) 228 (y * 4 + p) v).1 225 y = nI p by
    show (pI (pL u 226 (y * 4 + p) nm) 227 (y * 4 + p) s).1 225 y = _
    rw [rI, if_neg (by omega)]
    exact h, nI_1]
  exact wpl rfl
theorem adC_sx {nm v : Int64} {s : Int32} (hp : p < 4) : sx (qMPc x) c (adC c x p nm s v) := sx_pI (sx_pL (sx_pI (sx_pL sx_rfl (decide_eq_true (by omega))) (decide_eq_true (by omega))) (decide_eq_true (by omega))) (decide_eq_true (by omega))
theorem adR_sx {nm v : Int64} {s : Int32} (hp : p < 4) : sx (qMPu y) u (adR u y p nm s v) := sx_pI (sx_pL (sx_pI (sx_pL sx_rfl (decide_eq_true (by omega))) (decide_eq_true (by omega))) (decide_eq_true (by omega))) (decide_eq_true (by omega))
theorem adC_at {nm v : Int64} {s : Int32} {j : Nat} : (adC c x p nm s v).2 139 j = (if j = x * 4 + p then nm else c.2 139 j) ∧ (adC c x p nm s v).1 140 j = (if j = x * 4 + p then s else c.1 140 j) ∧ (adC c x p nm s v).2 141 j = (if j = x * 4 + p then v else c.2 141 j) ∧ (adC c x p nm s v).1 136 x = nI (p + 1) := by
  refine ⟨?_, ?_, ?_, ?_⟩
  · show (pL (pI (pL c 139 (x * 4 + p) nm) 140 (x * 4 + p) s) 141 (x * 4 + p) v).2 139 j = _
    rw [rL, if_neg (by omega)]
    show (pL c 139 (x * 4 + p) nm).2 139 j = _
    rw [rL]
    by_cases e : j = x * 4 + p
    · rw [if_pos ⟨rfl, e⟩, if_pos e]
    · rw [if_neg (fun z => e z.2), if_neg e]
  · unfold adC
    rw [rI, if_neg (by omega)]
    show (pI (pL c 139 (x * 4 + p) nm) 140 (x * 4 + p) s).1 140 j = _
    rw [rI]
    by_cases e : j = x * 4 + p
    · rw [if_pos ⟨rfl, e⟩, if_pos e]
    · rw [if_neg (fun z => e z.2), if_neg e]
      rfl
  · show (pL (pI (pL c 139 (x * 4 + p) nm) 140 (x * 4 + p) s) 141 (x * 4 + p) v).2 141 j = _
    rw [rL]
    by_cases e : j = x * 4 + p
    · rw [if_pos ⟨rfl, e⟩, if_pos e]
    · rw [if_neg (fun z => e z.2), if_neg e]
      show (pL c 139 (x * 4 + p) nm).2 141 j = _
      rw [rL, if_neg (by omega)]
  · unfold adC
    rw [rI, if_pos ⟨rfl, rfl⟩]
theorem adR_at {nm v : Int64} {s : Int32} {j : Nat} : (adR u y p nm s v).2 226 j = (if j = y * 4 + p then nm else u.2 226 j) ∧ (adR u y p nm s v).1 227 j = (if j = y * 4 + p then s else u.1 227 j) ∧ (adR u y p nm s v).2 228 j = (if j = y * 4 + p then v else u.2 228 j) ∧ (adR u y p nm s v).1 225 y = nI (p + 1) := by
  refine ⟨?_, ?_, ?_, ?_⟩
  · show (pL (pI (pL u 226 (y * 4 + p) nm) 227 (y * 4 + p) s) 228 (y * 4 + p) v).2 226 j = _
    rw [rL, if_neg (by omega)]
    show (pL u 226 (y * 4 + p) nm).2 226 j = _
    rw [rL]
    by_cases e : j = y * 4 + p
    · rw [if_pos ⟨rfl, e⟩, if_pos e]
    · rw [if_neg (fun z => e z.2), if_neg e]
  · unfold adR
    rw [rI, if_neg (by omega)]
    show (pI (pL u 226 (y * 4 + p) nm) 227 (y * 4 + p) s).1 227 j = _
    rw [rI]
    by_cases e : j = y * 4 + p
    · rw [if_pos ⟨rfl, e⟩, if_pos e]
    · rw [if_neg (fun z => e z.2), if_neg e]
      rfl
  · show (pL (pI (pL u 226 (y * 4 + p) nm) 227 (y * 4 + p) s) 228 (y * 4 + p) v).2 228 j = _
    rw [rL]
    by_cases e : j = y * 4 + p
    · rw [if_pos ⟨rfl, e⟩, if_pos e]
    · rw [if_neg (fun z => e z.2), if_neg e]
      show (pL u 226 (y * 4 + p) nm).2 228 j = _
      rw [rL, if_neg (by omega)]
  · unfold adR
    rw [rI, if_pos ⟨rfl, rfl⟩]
/-- the reference looks for a PAIR of the same NAME -/
def dpR (n : Nat) (a1 v4 : Int32) (nm : Int64) (s12 : Int32 × cS) : Option ((Int32 × cS) ⊕ cS) :=
              if ib a1 24380 then
              if (s12.2.1 225 (ix a1)) ≤ s12.1 then
                some (.inr s12.2)
              else
                if ib ((a1 * 4) + s12.1) 97520 then
                jn (fun p15 : cS =>
                  lt (s12.1 + 1 : Int32) (fun v17 =>
                  some (.inl (v17, p15))))
                (fun j102 =>
                if (lg_cmp (s12.2.2 226 (ix ((a1 * 4) + s12.1))) nm) = 0 then
                  if ib v4 4001 then
                  Option.bind (d_97 n 3 (s12.2.1 179 (ix v4)) s12.2) (fun r20 =>
                  j102 r20)
                  else none
                else
                  j102 s12.2)
                else none
              else none
theorem dup_r {nm : Int64} {l : Nat} (hn : 100 ≤ n) (hy : y < 24380) (hp : p ≤ 4) (h : u.1 225 y = nI p) (hl : l ≤ 4000) : wp (whl (dpR n (nI y) (nI l) nm) n (0, u)) (fun d => (u.1 174 13 = nI 1 → d = u) ∧ (u.1 174 13 = nI 0 → d = if (ff (fun q => decide (u.2 226 (y * 4 + q) = nm)) p).isSome = true then flt u 3 (u.1 179 l) else u)) := by
  refine whl_cnt (fun q (st : Int32 × cS) => st.1 = nI q ∧ (u.1 174 13 = nI 1 → st.2 = u) ∧ (u.1 174 13 = nI 0 → (st.2 = u ∧ ∀ j, j < q → u.2 226 (y * 4 + j) ≠ nm) ∨ (st.2 = flt u 3 (u.1 179 l) ∧ ∃ j, j < q ∧ u.2 226 (y * 4 + j) = nm)) ∧ (st.2 = u ∨ st.2 = flt u 3 (u.1 179 l))) p ?_ ?_ (by omega) ⟨rfl, fun _ => rfl, fun _ => Or.inl ⟨rfl, fun j hj => absurd hj (Nat.not_lt_zero _)⟩, Or.inl rfl⟩
  · rintro q ⟨q0, w⟩ hq ⟨g1, g2, g3, g4⟩
    dsimp only at g1 g2 g3 g4
    subst g1
    have f := flt_at (u := u) (a := 3) (f := u.1 179 l)
    have w5 : w.1 225 y = nI p := by
      rcases g4 with rfl | rfl
      · exact h
      · rw [f.2.2.2 225 y (by omega)]
        exact h
    have w6 : w.2 226 (y * 4 + q) = u.2 226 (y * 4 + q) := by
      rcases g4 with rfl | rfl <;> rfl
    have w9 : w.1 179 (ix (nI l)) = u.1 179 l := by
      rw [ix_n (by omega)]
      rcases g4 with rfl | rfl
      · rfl
      · rw [f.2.2.2 179 l (by omega)]
    unfold dpR
    dsimp only
    refine wpt (ib_n hy (by decide)) ?_
    rw [ix_n (show y < 2147483648 by omega), w5]
    refine wpf (by simp (disch := first | omega | decide) only [↓neg1, nlit, rI, rL, rI2, rL1, nI_add, pk_mul, sbT, dvT, nmd, ixT, ↓ibT, ltT, ltF, leT, leF, eqT, eqF, nM_ltT, nM_ltF, nM_leT, nM_leF, nM_eqF, nM_eqF', nbT0, nbT1, oI_s, oI_n, natF, natT, nltT, nltF, nleT, nleF, ↓reduceIte, lgc, not_true_eq_false, not_false_eq_true, or_false, false_or, or_true, true_or, and_true, true_and, and_false, false_and, ne_eq, eq_self, or_self, and_self]) ?_
    rw [show nI y * 4 + nI q = nI (y * 4 + q) by rw [show (4 : Int32) = nI 4 from rfl, pk_mul, nI_add], ix_n (show y * 4 + q < 2147483648 by omega), w6, w9]
    refine wpt (ib_n (by omega) (by decide)) (wpj ?_)
    by_cases e : u.2 226 (y * 4 + q) = nm
    · refine wpt (by rw [e]; exact lg_self) (wpt (ib_n (by omega) (by decide)) ?_)
      rcases g4 with g4 | g4
      · subst g4
        by_cases e13 : w.1 174 13 = nI 0
        · refine wpe (e97 e13) (wpl ⟨nI_1 q, fun z => ?_, fun _ => Or.inr ⟨rfl, q, by omega, e⟩, Or.inr rfl⟩)
          rw [z] at e13
          exact absurd e13 (by decide)
        · have h97 : d_97 n 3 (w.1 179 l) w = some w := by
            unfold d_97
            exact eq_wp (wpf e13 rfl)
          exact wpe h97 (wpl ⟨nI_1 q, fun _ => rfl, fun z => absurd z e13, Or.inl rfl⟩)
      · subst g4
        refine wpe (e97w f.1) (wpl ⟨nI_1 q, g2, fun z => Or.inr ⟨rfl, q, by omega, e⟩, Or.inr rfl⟩)
    · refine wpf (fun z => e (lg_eq z)) (wpl ⟨nI_1 q, g2, fun z => ?_, g4⟩)
      rcases g3 z with ⟨y1, y2⟩ | ⟨y1, j, y2, y3⟩
      · refine Or.inl ⟨y1, fun j hj => ?_⟩
        by_cases ej : j = q
        · rw [ej]
          exact e
        · exact y2 j (by omega)
      · exact Or.inr ⟨y1, j, by omega, y3⟩
  · rintro ⟨q0, w⟩ ⟨g1, g2, g3, g4⟩
    dsimp only at g1 g2 g3 g4
    subst g1
    have f := flt_at (u := u) (a := 3) (f := u.1 179 l)
    have w5 : w.1 225 y = nI p := by
      rcases g4 with rfl | rfl
      · exact h
      · rw [f.2.2.2 225 y (by omega)]
        exact h
    unfold dpR
    dsimp only
    refine wpt (ib_n hy (by decide)) ?_
    rw [ix_n (show y < 2147483648 by omega), w5]
    refine wpt (by simp (disch := first | omega | decide) only [↓neg1, nlit, rI, rL, rI2, rL1, nI_add, pk_mul, sbT, dvT, nmd, ixT, ↓ibT, ltT, ltF, leT, leF, eqT, eqF, nM_ltT, nM_ltF, nM_leT, nM_leF, nM_eqF, nM_eqF', nbT0, nbT1, oI_s, oI_n, natF, natT, nltT, nltF, nleT, nleF, ↓reduceIte, lgc, not_true_eq_false, not_false_eq_true, or_false, false_or, or_true, true_or, and_true, true_and, and_false, false_and, ne_eq, eq_self, or_self, and_self]) ⟨g2, fun z => ?_⟩
    show w = _
    rcases g3 z with ⟨y1, y2⟩ | ⟨y1, j, y2, y3⟩
    · cases hf : ff (fun q => decide (u.2 226 (y * 4 + q) = nm)) p with
      | none => exact y1
      | some j => exact absurd (of_decide_eq_true (ff_some hf).2.1) (y2 j (ff_some hf).1)
    · cases hf : ff (fun q => decide (u.2 226 (y * 4 + q) = nm)) p with
      | none => exact absurd y3 (of_decide_eq_false (ff_none hf j y2))
      | some j => exact y1
end PRS0
