/-! give: the reference -/
section GVUS
variable {n a L w r k j y : Nat} {b : Nat → Nat} {u d e0 : cS}
def qCp (r j A l : Nat) : Bool := decide ((A = 222 ∧ l = r) ∨ (223 ≤ A ∧ A ≤ 225 ∧ l = r * 20 + j) ∨ (226 ≤ A ∧ A ≤ 228 ∧ (r * 20 + j) * 4 ≤ l ∧ l < (r * 20 + j) * 4 + 4))
def ppL (n : Nat) (a1 v5 : Int32) (s8 : Int32 × cS) : Option ((Int32 × cS) ⊕ cS) :=
    if ib a1 24380 then
    if (s8.2.1 225 (ix a1)) ≤ s8.1 then
      some (.inr s8.2)
    else
      if ib ((a1 * 4) + s8.1) 97520 then
      if ib ((a1 * 4) + s8.1) 97520 then
      if ib ((a1 * 4) + s8.1) 97520 then
      Option.bind (d_394 n v5 (s8.2.2 226 (ix ((a1 * 4) + s8.1))) (s8.2.1 227 (ix ((a1 * 4) + s8.1))) (s8.2.2 228 (ix ((a1 * 4) + s8.1))) s8.2) (fun r13 =>
      lt (s8.1 + 1 : Int32) (fun v15 =>
      some (.inl (v15, r13))))
      else none
      else none
      else none
    else none
theorem d437_s {a1 a2 : Int32} : d_437 n a1 a2 u = if ib a1 24380 then
  if ib a1 24380 then
  Option.bind (d_393 n a2 (u.2 223 (ix a1)) (u.1 224 (ix a1)) u) (fun r3 =>
  if ib a2 1219 then
  Option.bind (d_392 n a2 ((r3.1 222 (ix a2)) - 1)) (fun v5 =>
  Option.bind (whl (ppL n a1 v5) n (0, r3))
  (fun x17 : cS =>
    some x17))
  else none)
  else none
  else none := rfl
/-- PAIRS are copied -/
theorem pp_lp (hy : y < 24380) {z : Nat} (hz : z < 24380) (hyz : y ≠ z) {l0 : List (Int64 × Nat × Int64)} (h4 : l0.length ≤ 4) : ∀ (rr k m : Nat) (u : cS), k + rr = l0.length → rr < m → PUl u y l0 → PUl u z (l0.take k) → ∃ d, whl (ppL n (nI y) (nI z)) m (nI k, u) = some d ∧ PUl d z l0 ∧ sx (fun A l => decide ((A = 225 ∧ l = z) ∨ (226 ≤ A ∧ A ≤ 228 ∧ z * 4 ≤ l ∧ l < z * 4 + 4))) u d
  | 0, k, m, u, hk, hm, h1, h2 => by
    obtain ⟨t, rfl⟩ : ∃ t, m = t + 1 := ⟨m - 1, by omega⟩
    refine ⟨u, whl_out ?_, ?_, sx_rfl⟩
    · unfold ppL
      dsimp only
      rw [show ix (nI y) = y from ix_n (by omega), h1.1]
      exact eq_wp (wpt (ib_n hy (by decide)) (wpt (by rw [show k = l0.length by omega]; exact nI_le (Nat.le_refl _) (by omega)) rfl))
    · rw [List.take_of_length_le (by omega)] at h2
      exact h2
  | rr + 1, k, m, u, hk, hm, h1, h2 => by
    obtain ⟨t, rfl⟩ : ∃ t, m = t + 1 := ⟨m - 1, by omega⟩
    have hkl : k < l0.length := by omega
    obtain ⟨e, he⟩ : ∃ e, l0[k]? = some e := ⟨l0[k], List.getElem?_eq_getElem hkl⟩
    obtain ⟨g1, g2, g3⟩ := h1.2 k e he
    have htl : (l0.take k).length = k := by
      rw [List.length_take]
      omega
    have e4 : nI y * 4 + nI k = nI (y * 4 + k) := by rw [show (4 : Int32) = nI 4 from rfl, pk_mul, nI_add]
    have h22 := h2.1
    rw [htl] at h22
    have hst : ppL n (nI y) (nI z) (nI k, u) = some (.inl (nI (k + 1), adR u z k e.1 (nI e.2.1) e.2.2)) := by
      unfold ppL
      dsimp only
      have hib : ib (nI (y * 4 + k)) 97520 := ib_n (by omega) (by decide)
      rw [show ix (nI y) = y from ix_n (by omega), h1.1, e4, show ix (nI (y * 4 + k)) = y * 4 + k from ix_n (by omega), g1, g2, g3]
      refine eq_wp (wpt (ib_n hy (by decide)) (wpf (by simp (disch := first | omega | decide) only [↓neg1, nlit, rI, rL, rI2, rL1, nI_add, pk_mul, sbT, dvT, nmd, ixT, ↓ibT, ltT, ltF, leT, leF, eqT, eqF, nM_ltT, nM_ltF, nM_leT, nM_leF, nM_eqF, nM_eqF', nbT0, nbT1, oI_s, oI_n, natF, natT, nltT, nltF, nleT, nleF, ↓reduceIte, lgc, not_true_eq_false, not_false_eq_true, or_false, false_or, or_true, true_or, and_true, true_and, and_false, false_and, ne_eq, eq_self, or_self, and_self]) (wpt hib (wpt hib (wpt hib (wpe (e394 hz (by omega) h22) (wpl ?_)))))))
      rw [nI_1]
      rfl
    have s1 : sx (fun A l => decide ((A = 225 ∧ l = z) ∨ (226 ≤ A ∧ A ≤ 228 ∧ z * 4 ≤ l ∧ l < z * 4 + 4))) u (adR u z k e.1 (nI e.2.1) e.2.2) := sx_pI (sx_pL (sx_pI (sx_pL sx_rfl (decide_eq_true (by omega))) (decide_eq_true (by omega))) (decide_eq_true (by omega))) (decide_eq_true (by omega))
    have hP1 : PUl (adR u z k e.1 (nI e.2.1) e.2.2) y l0 := by
      refine ⟨by rw [s1.1 _ _ (decide_eq_false (by omega))]; exact h1.1, fun q x hx => ?_⟩
      have hq : q < l0.length := by
        by_cases y : q < l0.length
        · exact y
        · rw [List.getElem?_eq_none (by omega)] at hx
          cases hx
      rw [s1.2 _ _ (decide_eq_false (by omega)), s1.1 _ _ (decide_eq_false (by omega)), s1.2 _ _ (decide_eq_false (by omega))]
      exact h1.2 q x hx
    have hP2 : PUl (adR u z k e.1 (nI e.2.1) e.2.2) z (l0.take (k + 1)) := by
      have := PUl_ad (e := e) h2
      rw [htl] at this
      rw [List.take_succ, he]
      exact this
    obtain ⟨d, k1, k2, k3⟩ := pp_lp hy hz hyz h4 rr (k + 1) t _ (by omega) (by omega) hP1 hP2
    exact ⟨d, (whl_in hst).trans k1, k2, sx_trans s1 k3⟩
/-- a MARK is copied -/
theorem e437 {m : Int64 × Option (List (Int64 × Nat × Int64))} (hn : 100 ≤ n) (hr : r < 1219) (hj : j < 20) (hy : y < 24380) (hyr : y ≠ r * 20 + j) (h222 : u.1 222 r = nI j) (hM : MKu u y m) (hO : fOk m) : ∃ d, d_437 n (nI y) (nI r) u = some d ∧ MKu d (r * 20 + j) m ∧ d.1 222 r = nI (j + 1) ∧ sx (qCp r j) u d := by
  have hib : ib (nI y) 24380 := ib_n hy (by decide)
  have ey : ix (nI y) = y := ix_n (by omega)
  have hir : ib (nI r) 1219 := ib_n hr (by decide)
  have er : ix (nI r) = r := ix_n (by omega)
  obtain ⟨m1, m2, m3, m4⟩ := id hM
  have h393 := e393 (n := n) (nm := m.1) (b := m.2.isNone) hr hj h222
  have hat := nwM_at (u := u) (k := j) (nm := m.1) (b2 := m.2.isNone) (rr := r)
  have sN : sx (qCp r j) u (nwM u r j m.1 m.2.isNone) := by
    unfold nwM
    exact sx_pI (sx_pI (sx_pI (sx_pL sx_rfl (decide_eq_true (by omega))) (decide_eq_true (by omega))) (decide_eq_true (by omega))) (decide_eq_true (by omega))
  obtain ⟨x, hx⟩ : ∃ x, x = nwM u r j m.1 m.2.isNone := ⟨_, rfl⟩
  rw [← hx] at h393 hat sN
  have hMx : MKu x y m := MKu_cg hM hO (sN.2 _ _ (decide_eq_false (by omega))) (sN.1 _ _ (decide_eq_false (by omega))) (sN.1 _ _ (decide_eq_false (by omega))) (fun A q z1 z2 z3 => ⟨sN.1 _ _ (decide_eq_false (by omega)), sN.2 _ _ (decide_eq_false (by omega))⟩)
  have hpre : ∀ {d : cS}, whl (ppL n (nI y) (nI (r * 20 + j))) n (0, x) = some d → d_437 n (nI y) (nI r) u = some d := fun {d} z => by
    rw [d437_s, ey, er, m1, m2]
    refine eq_wp (wpt hib (wpt hib (wpe h393 (wpt hir ?_))))
    rw [hat.2.2.2, show nI (j + 1) - 1 = nI j from pk_sub (b := 1) (by omega)]
    exact wpe e392 (wpe z rfl)
  cases hm : m.2 with
  | none =>
    refine ⟨x, hpre ?_, ⟨hat.1, hat.2.1, fun _ => hat.2.2.1, fun l hl => ?_⟩, hat.2.2.2, sN⟩
    · obtain ⟨t, ht⟩ : ∃ t, n = t + 1 := ⟨n - 1, by omega⟩
      have : whl (ppL n (nI y) (nI (r * 20 + j))) (t + 1) (0, x) = some x := whl_out (by
        unfold ppL
        dsimp only
        rw [ey, hMx.2.2.1 hm]
        exact eq_wp (wpt hib (wpt (by decide) rfl)))
      rw [← ht] at this
      exact this
    · rw [hm] at hl
      cases hl
  | some l =>
    have hl4 := (hO l hm).1
    obtain ⟨d, k1, k2, k3⟩ := pp_lp (n := n) hy (z := r * 20 + j) (by omega) hyr hl4 l.length 0 n x (by omega) (by omega) (hMx.2.2.2 l hm) ⟨hat.2.2.1, fun q e he => by cases he⟩
    refine ⟨d, hpre k1, ⟨?_, ?_, fun z => ?_, fun l' hl' => ?_⟩, ?_, sx_trans sN (sx_wide k3 (fun A l z => ?_))⟩
    · rw [k3.2 _ _ (decide_eq_false (by omega))]
      exact hat.1
    · rw [k3.1 _ _ (decide_eq_false (by omega))]
      exact hat.2.1
    · rw [hm] at z
      cases z
    · rw [hm] at hl'
      cases hl'
      exact k2
    · rw [k3.1 _ _ (decide_eq_false (by omega))]
      exact hat.2.2.2
    · have := of_decide_eq_false z
      exact decide_eq_false (by omega)
/-- what stays when row r is written -/
def qCrw (r A l : Nat) : Bool := decide ((A = 222 ∧ l = r) ∨ (223 ≤ A ∧ A ≤ 225 ∧ r * 20 ≤ l ∧ l < r * 20 + 20) ∨ (226 ≤ A ∧ A ≤ 228 ∧ r * 80 ≤ l ∧ l < r * 80 + 80))
theorem cp_lp (hn : 100 ≤ n) (hr : r < 1218) {l : List (Int64 × Option (List (Int64 × Nat × Int64)))} (h20 : l.length ≤ 20) (hO : ∀ x ∈ l, fOk x) : ∀ (rr k m : Nat) (u : cS), k + rr = l.length → rr < m → (∀ j m, l[j]? = some m → MKu u (1218 * 20 + j) m) → URW u r (l.take k) → ∃ d, whl (cpL n (nI l.length) (nI r)) m (nI k, u) = some d ∧ URW d r l ∧ sx (qCrw r) u d
  | 0, k, m, u, hk, hm, h1, h2 => by
    obtain ⟨t, rfl⟩ : ∃ t, m = t + 1 := ⟨m - 1, by omega⟩
    refine ⟨u, whl_out ?_, ?_, sx_rfl⟩
    · unfold cpL
      dsimp only
      exact eq_wp (wpt (by rw [show k = l.length by omega]; exact nI_le (Nat.le_refl _) (by omega)) rfl)
    · rw [List.take_of_length_le (by omega)] at h2
      exact h2
  | rr + 1, k, m, u, hk, hm, h1, h2 => by
    obtain ⟨t, rfl⟩ : ∃ t, m = t + 1 := ⟨m - 1, by omega⟩
    have hkl : k < l.length := by omega
    obtain ⟨e, he⟩ : ∃ e, l[k]? = some e := ⟨l[k], List.getElem?_eq_getElem hkl⟩
    have htl : (l.take k).length = k := by
      rw [List.length_take]
      omega
    have h22 := h2.1
    rw [htl] at h22
    obtain ⟨d, g1, g2, g3, g4⟩ := e437 (n := n) (r := r) (j := k) (y := 1218 * 20 + k) hn (by omega) (by omega) (by omega) (by omega) h22 (h1 k e he) (hO e (List.mem_of_getElem? he))
    have hst : cpL n (nI l.length) (nI r) (nI k, u) = some (.inl (nI (k + 1), d)) := by
      unfold cpL
      dsimp only
      refine eq_wp (wpf (by simp (disch := first | omega | decide) only [↓neg1, nlit, rI, rL, rI2, rL1, nI_add, pk_mul, sbT, dvT, nmd, ixT, ↓ibT, ltT, ltF, leT, leF, eqT, eqF, nM_ltT, nM_ltF, nM_leT, nM_leF, nM_eqF, nM_eqF', nbT0, nbT1, oI_s, oI_n, natF, natT, nltT, nltF, nleT, nleF, ↓reduceIte, lgc, not_true_eq_false, not_false_eq_true, or_false, false_or, or_true, true_or, and_true, true_and, and_false, false_and, ne_eq, eq_self, or_self, and_self]) (wpe e392f (wpe g1 (wpl ?_))))
      rw [nI_1]
      rfl
    have hin : ∀ {j : Nat} {x : Int64 × Option (List (Int64 × Nat × Int64))}, l[j]? = some x → j < l.length := fun {j x} hx => by
      by_cases y : j < l.length
      · exact y
      · rw [List.getElem?_eq_none (by omega)] at hx
        cases hx
    obtain ⟨d2, k1, k2, k3⟩ := cp_lp hn hr h20 hO rr (k + 1) t d (by omega) (by omega) (fun j x hx => by
      have := hin hx
      exact MKu_cg (h1 j x hx) (hO x (List.mem_of_getElem? hx)) (g4.2 _ _ (decide_eq_false (by omega))) (g4.1 _ _ (decide_eq_false (by omega))) (g4.1 _ _ (decide_eq_false (by omega))) (fun A q z1 z2 z3 => ⟨g4.1 _ _ (decide_eq_false (by omega)), g4.2 _ _ (decide_eq_false (by omega))⟩)) ⟨by rw [g3, List.length_take]; exact congrArg nI (by omega), fun j x hx => by
      have hj : j < k + 1 := by
        by_cases y : j < k + 1
        · exact y
        · rw [List.getElem?_eq_none (by rw [List.length_take]; omega)] at hx
          cases hx
      rw [List.getElem?_take_of_lt hj] at hx
      by_cases ej : j = k
      · rw [ej] at hx ⊢
        rw [he] at hx
        cases hx
        exact g2
      · have hx' : (l.take k)[j]? = some x := by
          rw [List.getElem?_take_of_lt (by omega)]
          exact hx
        exact MKu_cg (h2.2 j x hx') (hO x (List.mem_of_getElem? hx)) (g4.2 _ _ (decide_eq_false (by omega))) (g4.1 _ _ (decide_eq_false (by omega))) (g4.1 _ _ (decide_eq_false (by omega))) (fun A q z1 z2 z3 => ⟨g4.1 _ _ (decide_eq_false (by omega)), g4.2 _ _ (decide_eq_false (by omega))⟩)⟩
    exact ⟨d2, (whl_in hst).trans k1, k2, sx_trans (sx_wide g4 (fun A l z => by
      have := of_decide_eq_false z
      exact decide_eq_false (by omega))) k3⟩
def qGu (r A l : Nat) : Bool := decide ((A = 174 ∧ (l = 0 ∨ l = 2 ∨ l = 80 ∨ l = 81 ∨ l = 82 ∨ l = 106 ∨ l = 111 ∨ l = 97 ∨ l = 102 ∨ l = 130)) ∨ (A = 222 ∧ (l = 1218 ∨ l = r)) ∨ (223 ≤ A ∧ A ≤ 225 ∧ (1218 * 20 ≤ l ∨ (r * 20 ≤ l ∧ l < r * 20 + 20))) ∨ (226 ≤ A ∧ A ≤ 228 ∧ (1218 * 80 ≤ l ∨ (r * 80 ≤ l ∧ l < r * 80 + 80))))
theorem v121_s (hL : L ≤ 4000) (h2 : u.1 174 2 = nI L) (hT : ∀ j, j < L → b j < 256 ∧ u.1 175 j = nI (b j)) : FUS (v121 u) b L 0 ∧ URW (v121 u) 1218 [] ∧ sx (qGu r) u (v121 u) ∧ (v121 u).1 174 2 = nI 0 ∧ (v121 u).1 174 0 = nI 0 := by
  have e : ∀ A l, ¬ (A = 174 ∧ (l = 0 ∨ l = 81 ∨ l = 2 ∨ l = 80 ∨ l = 82)) → ¬ (A = 222 ∧ l = 1218) → (v121 u).1 A l = u.1 A l := fun A l z1 z2 => by
    unfold v121 u121
    rw [rI, if_neg z2, rI, if_neg (by omega), rI, if_neg (by omega), rI, if_neg (by omega), rI, if_neg (by omega), rI, if_neg (by omega)]
  refine ⟨⟨by omega, hL, ?_, ?_, ?_, fun j hj => ⟨(hT j hj).1, by rw [e _ _ (by omega) (by omega)]; exact (hT j hj).2⟩⟩, ⟨?_, fun j m hj => by cases hj⟩, ?_, ?_, ?_⟩
  · unfold v121
    rw [rI, if_neg (by omega), rI, if_neg (by omega), rI, if_pos ⟨rfl, rfl⟩]
    rfl
  · unfold v121 u121
    rw [rI, if_neg (by omega), rI, if_neg (by omega), rI, if_neg (by omega), rI, if_neg (by omega), rI, if_pos ⟨rfl, rfl⟩]
    exact h2
  · unfold v121
    rw [rI, if_neg (by omega), rI, if_pos ⟨rfl, rfl⟩]
    rfl
  · unfold v121
    rw [rI, if_pos ⟨rfl, rfl⟩]
    rfl
  · unfold v121 u121
    exact sx_pI (sx_pI (sx_pI (sx_pI (sx_pI (sx_pI sx_rfl (decide_eq_true (by omega))) (decide_eq_true (by omega))) (decide_eq_true (by omega))) (decide_eq_true (by omega))) (decide_eq_true (by omega))) (decide_eq_true (by omega))
  · unfold v121 u121
    rw [rI, if_neg (by omega), rI, if_neg (by omega), rI, if_neg (by omega), rI, if_pos ⟨rfl, rfl⟩]
    rfl
  · unfold v121 u121
    rw [rI, if_neg (by omega), rI, if_neg (by omega), rI, if_neg (by omega), rI, if_neg (by omega), rI, if_neg (by omega), rI, if_pos ⟨rfl, rfl⟩]
    rfl
/-- give in the reference, at a PLACE -/
theorem e121 (hn : 100 ≤ n) (hr : r < 1218) (hL : L ≤ 4000) (h2 : u.1 174 2 = nI L) (hT : ∀ j, j < L → b j < 256 ∧ u.1 175 j = nI (b j)) (h109 : d_109 n (nI r) (u121 u) = some (nI 1)) : (∀ w, fFl b L = .inl w → ∃ d, d_121 n (nI r) u = some ((-1000) - nI w, d) ∧ sx (qGu 1218) u d ∧ d.1 174 2 = nI 0 ∧ d.1 174 0 = nI 0) ∧ (∀ l, fFl b L = .inr l → ∃ d, d_121 n (nI r) u = some (nI l.length, d) ∧ URW d r l ∧ FGR d ∧ sx (qGu r) u d ∧ d.1 174 2 = nI 0 ∧ d.1 174 0 = nI 0) := by
  have key : ∀ r', (r' = r ∨ r' = 1218) → sx (qGu r') u (v121 u) ∧ FUS (v121 u) b L 0 ∧ URW (v121 u) 1218 [] ∧ (v121 u).1 174 2 = nI 0 ∧ (v121 u).1 174 0 = nI 0 := fun r' _ => by
    obtain ⟨k1, k2, k3, k4, k5⟩ := v121_s (r := r') hL h2 hT
    exact ⟨k3, k1, k2, k4, k5⟩
  obtain ⟨-, h0, hU0, z2, z0⟩ := key r (Or.inl rfl)
  have bse : ∀ {q : Int32 × cS}, wp (Option.bind (d_433 n 0 20 (v121 u)) (fun r15 =>
    Option.bind (whl (muL n r15.1) n (0, r15.2))
    (Sum.elim (enG n (nI r) r15.1) (enG n (nI r) r15.1)))) (fun z => z = q) → d_121 n (nI r) u = some q := fun {q} z => by
    rw [d121_s]
    exact eq_wp (wpe h109 (wpf (by decide) z))
  have enW : ∀ {d : cS} {w : Nat} {cnt : Int32}, FUW d w → enG n (nI r) cnt d = some ((-1000) - nI w, d) := fun {d w cnt} z => by
    unfold enG
    rw [z.2.2]
    exact eq_wp (wpj (wpf (ne82 z) rfl))
  have wd : ∀ {d : cS} {r' : Nat}, (r' = r ∨ r' = 1218) → sx qMu (v121 u) d → sx (qGu r') u d ∧ d.1 174 2 = nI 0 ∧ d.1 174 0 = nI 0 := fun {d r'} hr' z => by
    refine ⟨sx_trans (key r' hr').1 (sx_wide z (fun A l y => ?_)), ?_, ?_⟩
    · have := of_decide_eq_false y
      exact decide_eq_false (by omega)
    · rw [z.1 _ _ (decide_eq_false (by omega))]
      exact z2
    · rw [z.1 _ _ (decide_eq_false (by omega))]
      exact z0
  unfold fFl
  cases e : fby b L 0 20 0 with
  | none =>
    obtain ⟨h433, hW⟩ := e433n (n := n) h0 e (by decide) (by decide)
    refine ⟨fun w hw => ?_, fun l hl => by cases hl⟩
    cases hw
    have sd : sx qMu (v121 u) (pI (v121 u) 174 82 (nI 1)) := sx_pI sx_rfl (decide_eq_true (by omega))
    exact ⟨_, bse (wpe h433 (wpe (muL_w (k := 0) (by omega) hW) (wp_of (enW hW) rfl))), wd (Or.inr rfl) sd⟩
  | some k =>
    have hk := fby_some e
    dsimp only
    have y1 := e433s (n := n) h0 e (by decide)
    have h1 : FUS (pI (v121 u) 174 80 (nI (0 + 1))) b L 1 := FUS_at h0 (by omega)
    have hU1 : URW (pI (v121 u) 174 80 (nI (0 + 1))) 1218 [] := ⟨by rw [rI, if_neg (by omega)]; exact hU0.1, fun j m hj => by cases hj⟩
    have s1 : sx qMu (v121 u) (pI (v121 u) 174 80 (nI (0 + 1))) := sx_pI sx_rfl (decide_eq_true (by omega))
    obtain ⟨g1, g2⟩ := mu_lp (n := n) hn k 0 1 n [] _ (by omega) rfl (by omega) h1 hU1 (fun x hx => by cases hx)
    rw [Nat.zero_add] at g1 g2
    cases e2 : fMl b L k 1 [] with
    | inl w1 =>
      refine ⟨fun w hw => ?_, fun l hl => by cases hl⟩
      cases hw
      obtain ⟨d, k1, k2, k3⟩ := g2 _ e2
      refine ⟨d, bse (wpe y1 ?_), wd (Or.inr rfl) (sx_trans s1 k3)⟩
      rcases k1 with k1 | k1
      · exact wpe k1 (wpSl (wp_of (enW k2) rfl))
      · exact wpe k1 (wpSr (wp_of (enW k2) rfl))
    | inr p =>
      have hp := (fMl_b (b := b) (r := k) (a := 1) (l := []) (L := L) (by omega) (fun x hx => by cases hx)).2 e2
      obtain ⟨d, k1, k2, k3, k4⟩ := g1 p e2
      have hlen : p.1.length = k := by
        have := hp.2.2.1
        simp at this
        exact this
      dsimp only
      by_cases e3 : p.2 < L
      · rw [if_pos e3]
        refine ⟨fun w hw => ?_, fun l hl => by cases hl⟩
        cases hw
        refine ⟨d, bse (wpe y1 (wpe k1 (wpSl ?_))), wd (Or.inr rfl) (sx_trans s1 k4)⟩
        unfold enG
        rw [k2.2.2.1, k2.2.2.2.1]
        exact wpj (wpt k2.2.2.2.2.1 (wpf (by simp (disch := first | omega | decide) only [↓neg1, nlit, rI, rL, rI2, rL1, nI_add, pk_mul, sbT, dvT, nmd, ixT, ↓ibT, ltT, ltF, leT, leF, eqT, eqF, nM_ltT, nM_ltF, nM_leT, nM_leF, nM_eqF, nM_eqF', nbT0, nbT1, oI_s, oI_n, natF, natT, nltT, nltF, nleT, nleF, ↓reduceIte, lgc, not_true_eq_false, not_false_eq_true, or_false, false_or, or_true, true_or, and_true, true_and, and_false, false_and, ne_eq, eq_self, or_self, and_self]) rfl))
      · rw [if_neg e3]
        refine ⟨fun w hw => (by cases hw), fun l hl => ?_⟩
        cases hl
        obtain ⟨a1, a2, a3⟩ := wd (r' := r) (Or.inl rfl) (sx_trans s1 k4)
        have hpL : p.2 = L := by
          have := hp.2.1
          omega
        obtain ⟨d2, c1, c2, c3⟩ := cp_lp (n := n) (r := r) hn hr (l := p.1) (by omega) hp.2.2.2 p.1.length 0 n (pI d 222 r 0) (by omega) (by omega) (fun j m hj => by
          have hjl : j < p.1.length := by
            by_cases y : j < p.1.length
            · exact y
            · rw [List.getElem?_eq_none (by omega)] at hj
              cases hj
          exact MKu_cg (k3.2 j m hj) (hp.2.2.2 m (List.mem_of_getElem? hj)) rfl (by rw [rI, if_neg (by omega)]) (by rw [rI, if_neg (by omega)]) (fun A q z1 z2 z3 => ⟨by rw [rI, if_neg (by omega)], rfl⟩)) ⟨by rw [rI, if_pos ⟨rfl, rfl⟩]; rfl, fun j m hj => by cases hj⟩
        obtain ⟨d3, f1, f2, f3⟩ := wp_ex (e133 (n := n) (u := d2))
        have F : ∀ A l, ¬ (A = 174 ∧ (l = 106 ∨ l = 111 ∨ l = 97 ∨ l = 102 ∨ l = 130)) → d3.1 A l = d2.1 A l ∧ d3.2 A l = d2.2 A l := fun A l z => ⟨f2.1 _ _ (decide_eq_false z), f2.2 _ _ (decide_eq_false z)⟩
        have C2 : ∀ l, d2.1 174 l = d.1 174 l := fun l => by
          rw [c3.1 _ _ (decide_eq_false (by omega)), rI, if_neg (by omega)]
        refine ⟨d3, bse (wpe y1 (wpe k1 (wpSl ?_))), ⟨by rw [(F _ _ (by omega)).1]; exact c2.1, fun j m hj => MKu_cg (c2.2 j m hj) (hp.2.2.2 m (List.mem_of_getElem? hj)) (F _ _ (by omega)).2 (F _ _ (by omega)).1 (F _ _ (by omega)).1 (fun A q z1 z2 z3 => F _ _ (by omega))⟩, f3, ?_, by rw [(F _ _ (by omega)).1, C2]; exact a2, by rw [(F _ _ (by omega)).1, C2]; exact a3⟩
        · unfold enG
          rw [k2.2.2.1, k2.2.2.2.1, hpL, show ix (nI r) = r from ix_n (by omega), ← hlen]
          exact wpj (wpt k2.2.2.2.2.1 (wpt (nI_le (Nat.le_refl _) (by omega)) (wpt (ib_n (by omega) (by decide)) (wpl (wpe c1 (wpe f1 rfl))))))
        · exact sx_trans (sx_trans a1 (sx_trans (sx_pI sx_rfl (decide_eq_true (by omega))) (sx_wide c3 (fun A l z => by
            have := of_decide_eq_false z
            exact decide_eq_false (by omega))))) (sx_wide f2 (fun A l z => by
            have := of_decide_eq_false z
            exact decide_eq_false (by omega)))
end GVUS
