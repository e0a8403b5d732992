/-! rounds: MARKS of a row as values; a name in a row; a copy -/
section MVXS
variable {n r q k x y z V F : Nat} {c d m u w : cS} {sz : Nat → Nat} {X : Nat → Nat → Nat} {Y : Nat → Nat} {nm : Int64}
def mvL (m : cS) (y : Nat) : List (Int64 × Nat × Int64) := (List.range (prn m y)).map (fun q => (m.2 226 (y * 4 + q), ix (m.1 227 (y * 4 + q)), m.2 228 (y * 4 + q)))
def mvO (m : cS) (y : Nat) : Int64 × Option (List (Int64 × Nat × Int64)) := (m.2 223 y, if m.1 224 y = nI 0 then some (mvL m y) else none)
theorem mvL_n : (mvL m y).length = prn m y := by
  unfold mvL
  rw [List.length_map, List.length_range]
theorem mvL_at {e : Int64 × Nat × Int64} (h : (mvL m y)[q]? = some e) : q < prn m y ∧ e = (m.2 226 (y * 4 + q), ix (m.1 227 (y * 4 + q)), m.2 228 (y * 4 + q)) := by
  have hq : q < prn m y := by
    by_cases z : q < (mvL m y).length
    · rw [mvL_n] at z
      exact z
    · rw [List.getElem?_eq_none (by omega)] at h
      cases h
  refine ⟨hq, ?_⟩
  unfold mvL at h
  rw [List.getElem?_map, List.getElem?_range hq] at h
  exact (Option.some.inj h).symm
/-- a MARK that both have, as a value -/
theorem mv_of (h : MKR c m x y) : MKc c x (mvO m y) ∧ MKu m y (mvO m y) ∧ fOk (mvO m y) ∧ fIv (mvO m y) := by
  obtain ⟨h1, h2, h3, h4, h5, h6, h7, h8, h9⟩ := h
  have hs : ∀ q, q < prn m y → ∃ s, 1 ≤ s ∧ s ≤ 3 ∧ m.1 227 (y * 4 + q) = nI s ∧ ix (m.1 227 (y * 4 + q)) = s := fun q hq => by
    obtain ⟨-, -, ⟨s, s1, s2, s3⟩, -⟩ := h9 q hq
    exact ⟨s, s1, s2, s3, by rw [s3]; exact ix_n (by omega)⟩
  by_cases e : m.1 224 y = nI 0
  · have eO : mvO m y = (m.2 223 y, some (mvL m y)) := by
      unfold mvO
      rw [if_pos e]
    rw [eO]
    refine ⟨⟨h2, (fun z => by cases z), fun l hl => ?_⟩, ⟨rfl, e, (fun z => by cases z), fun l hl => ?_⟩, fun l hl => ?_, fun l hl e' he' g1 => ?_⟩
    · cases hl
      refine ⟨?_, fun q z hz => ?_⟩
      · rw [mvL_n, h8, if_pos e]
      · obtain ⟨hq, rfl⟩ := mvL_at hz
        obtain ⟨g1, g2, -, g4, -⟩ := h9 q hq
        obtain ⟨s, -, -, s3, s4⟩ := hs q hq
        refine ⟨g1, ?_, g4⟩
        show c.1 140 (x * 4 + q) = nI (ix (m.1 227 (y * 4 + q)))
        rw [g2, s4, s3]
    · cases hl
      refine ⟨by rw [mvL_n]; exact h6, fun q z hz => ?_⟩
      obtain ⟨hq, rfl⟩ := mvL_at hz
      obtain ⟨s, -, -, s3, s4⟩ := hs q hq
      refine ⟨rfl, ?_, rfl⟩
      show m.1 227 (y * 4 + q) = nI (ix (m.1 227 (y * 4 + q)))
      rw [s4, s3]
    · cases hl
      refine ⟨by rw [mvL_n]; exact h5, fun z hz => ?_⟩
      obtain ⟨q, hq⟩ := List.getElem?_of_mem hz
      obtain ⟨hq', rfl⟩ := mvL_at hq
      obtain ⟨s, s1, s2, s3, s4⟩ := hs q hq'
      show 1 ≤ ix (m.1 227 (y * 4 + q)) ∧ ix (m.1 227 (y * 4 + q)) ≤ 3
      rw [s4]
      exact ⟨s1, s2⟩
    · cases hl
      obtain ⟨q, hq⟩ := List.getElem?_of_mem he'
      obtain ⟨hq', rfl⟩ := mvL_at hq
      obtain ⟨s, s1, s2, s3, s4⟩ := hs q hq'
      have g1 : ix (m.1 227 (y * 4 + q)) = 1 := g1
      rw [s4] at g1
      exact (h9 q hq').2.2.2.2 (by rw [s3, g1])
  · have e1 : m.1 224 y = nI 1 := by
      rcases h4 with z | z
      · exact absurd (show m.1 224 y = nI 0 from z) e
      · exact z
    have eO : mvO m y = (m.2 223 y, none) := by
      unfold mvO
      rw [if_neg e]
    rw [eO]
    refine ⟨⟨h2, fun _ => ?_, (fun l hl => by cases hl)⟩, ⟨rfl, e1, fun _ => ?_, (fun l hl => by cases hl)⟩, (fun l hl => by cases hl), (fun l hl => by cases hl)⟩
    · rw [h8, if_neg e]
    · rw [h6, h7 e1]
def rwL (m : cS) (r : Nat) : List (Int64 × Option (List (Int64 × Nat × Int64))) := (List.range (mz m r)).map (fun i => mvO m (r * 20 + i))
theorem rwL_n : (rwL m r).length = mz m r := by
  unfold rwL
  rw [List.length_map, List.length_range]
theorem rwL_at {e : Int64 × Option (List (Int64 × Nat × Int64))} (h : (rwL m r)[q]? = some e) : q < mz m r ∧ e = mvO m (r * 20 + q) := by
  have hq : q < mz m r := by
    by_cases z : q < (rwL m r).length
    · rw [rwL_n] at z
      exact z
    · rw [List.getElem?_eq_none (by omega)] at h
      cases h
  refine ⟨hq, ?_⟩
  unfold rwL at h
  rw [List.getElem?_map, List.getElem?_range hq] at h
  exact (Option.some.inj h).symm
/-- a row that both have, as a list of values -/
theorem rwL_of (hA : ALO c V F sz X Y) (hr : r < 2242) (h : RW c m r) : sz r = mz m r ∧ CRW c X r (rwL m r) ∧ URW m r (rwL m r) ∧ (∀ e, e ∈ rwL m r → fOk e) ∧ ∀ e, e ∈ rwL m r → fIv e := by
  have hsz := ALO_sz hA hr
  have hV := hA.1
  obtain ⟨h1, h2, h3, h4⟩ := h
  have ez : sz r = mz m r := by
    have := hA.2.2.2.1 r hr
    rw [h3] at this
    exact ((nI_eq (by omega) (by omega)).mp this).symm
  have key : ∀ i, i < mz m r → MKR c m (X r i) (r * 20 + i) := fun i hi => by
    have := (h4 i hi).2
    rw [(ALO_ch hA hr i (by omega)).2] at this
    exact this
  refine ⟨ez, fun j e he => ?_, ⟨by rw [rwL_n]; exact h2, fun j e he => ?_⟩, fun e he => ?_, fun e he => ?_⟩
  · obtain ⟨hj, rfl⟩ := rwL_at he
    exact (mv_of (key j hj)).1
  · obtain ⟨hj, rfl⟩ := rwL_at he
    exact (mv_of (key j hj)).2.1
  · obtain ⟨j, hj⟩ := List.getElem?_of_mem he
    obtain ⟨hj', rfl⟩ := rwL_at hj
    exact (mv_of (key j hj')).2.2.1
  · obtain ⟨j, hj⟩ := List.getElem?_of_mem he
    obtain ⟨hj', rfl⟩ := rwL_at hj
    exact (mv_of (key j hj')).2.2.2
/-- whether a NAME stands in a row -/
theorem e229x {N : Nat → Int64} (hn : 5000 ≤ n) (hA : ALO c V F sz X Y) (hr : r < 2242) (hN : ∀ i, i < sz r → c.2 134 (X r i) = N i) : d_229 n (nI r) nm c = some (bI (ff (fun j => decide (N j = nm)) (sz r)).isSome) := by
  have hsz := ALO_sz hA hr
  obtain ⟨h1, h2, h3, h4, h5, h6, h7, -⟩ := hA
  have hib : ib (nI r) 2242 := ib_n hr (by decide)
  have hix : ix (nI r) = r := ix_n (by omega)
  obtain ⟨B, hB⟩ : ∃ B, B = (ff (fun j => decide (N j = nm)) (sz r)).isSome := ⟨_, rfl⟩
  rw [← hB]
  unfold d_229
  refine eq_wp (wpt hib ?_)
  rw [hix]
  refine wpl ?_
  refine wpc (K' := fun o : Unit ⊕ Unit => o = if B = true then .inr () else .inl ()) (whl_cnt (fun j (st : Int32 × Int32) => (j < sz r → st.1 = nI (X r j)) ∧ st.2 = nI j ∧ ∀ l, l < j → N l ≠ nm) (sz r) ?_ ?_ (by omega) ⟨fun h => (h5 r hr h).1, rfl, fun l hl => absurd hl (Nat.not_lt_zero _)⟩) ?_
  · rintro j ⟨a, b⟩ hj ⟨g1, g2, g3⟩
    dsimp only at g1 g2 g3
    have g1 := g1 hj
    subst g1 g2
    dsimp only
    have hx := h6 r j hr hj
    refine wpt hib ?_
    rw [h4 r hr]
    refine wpf (by simp (disch := first | omega | decide) only [↓neg1, nlit, rI, rL, rI2, rL1, nI_add, pk_mul, sbT, dvT, nmd, ixT, ↓ibT, ltT, ltF, leT, leF, eqT, eqF, nM_ltT, nM_ltF, nM_leT, nM_leF, nM_eqF, nM_eqF', nbT0, nbT1, oI_s, oI_n, natF, natT, nltT, nltF, nleT, nleF, ↓reduceIte, lgc, not_true_eq_false, not_false_eq_true, or_false, false_or, or_true, true_or, and_true, true_and, and_false, false_and, ne_eq, eq_self, or_self, and_self]) (wpt (ib_n (by omega) (by decide)) ?_)
    rw [ix_n (show X r j < 2147483648 by omega), hN j hj]
    by_cases e : N j = nm
    · refine wpt (by rw [e]; exact lg_self) ?_
      have : B = true := by
        rw [hB]
        cases hf : ff (fun j => decide (N j = nm)) (sz r) with
        | some _ => rfl
        | none => exact absurd e (of_decide_eq_false (ff_none hf j hj))
      show Sum.inr () = _
      rw [this]
      rfl
    · refine wpf (fun z => e (lg_eq z)) (wpt (ib_n (by omega) (by decide)) (wpl (wpl ⟨fun hj1 => h7 r j hr hj1, nI_1 j, fun l hl => ?_⟩)))
      by_cases el : l = j
      · rw [el]
        exact e
      · exact g3 l (by omega)
  · rintro ⟨a, b⟩ ⟨g1, g2, g3⟩
    dsimp only at g2 g3
    subst g2
    dsimp only
    refine wpt hib ?_
    rw [h4 r hr]
    refine wpt (by simp (disch := first | omega | decide) only [↓neg1, nlit, rI, rL, rI2, rL1, nI_add, pk_mul, sbT, dvT, nmd, ixT, ↓ibT, ltT, ltF, leT, leF, eqT, eqF, nM_ltT, nM_ltF, nM_leT, nM_leF, nM_eqF, nM_eqF', nbT0, nbT1, oI_s, oI_n, natF, natT, nltT, nltF, nleT, nleF, ↓reduceIte, lgc, not_true_eq_false, not_false_eq_true, or_false, false_or, or_true, true_or, and_true, true_and, and_false, false_and, ne_eq, eq_self, or_self, and_self]) ?_
    have : B = false := by
      rw [hB]
      cases hf : ff (fun j => decide (N j = nm)) (sz r) with
      | none => rfl
      | some l => exact absurd (of_decide_eq_true (ff_some hf).2.1) (g3 l (ff_some hf).1)
    show Sum.inl () = _
    rw [this]
    rfl
  · rintro o rfl
    cases B with
    | true => exact rfl
    | false => exact rfl
/-! a copy of a MARK, in the class -/
def cpB (n : Nat) (a2 z : Int32) (s10 : Int32 × cS) : Option ((Int32 × cS) ⊕ cS) :=
      if ib a2 4096 then
      if (s10.2.1 136 (ix a2)) ≤ s10.1 then
        some (.inr s10.2)
      else
        lt (((a2 * 4) + s10.1) : Int32) (fun v13 =>
        if ib v13 16384 then
        if ib v13 16384 then
        if ib v13 16384 then
        Option.bind (d_225 n z (s10.2.2 139 (ix v13)) (s10.2.1 140 (ix v13)) (s10.2.2 141 (ix v13)) s10.2) (fun r18 =>
        lt (s10.1 + 1 : Int32) (fun v20 =>
        some (.inl (v20, r18))))
        else none
        else none
        else none)
      else none
theorem d226_s {a1 a2 : Int32} : d_226 n a1 a2 c = if ib a2 4096 then
  Option.bind (d_224 n a1 (c.2 134 (ix a2)) c) (fun r2 =>
  jn (fun p4 : cS =>
    some p4)
  (fun j82 =>
  if r2.1 < 0 then
    j82 r2.2
  else
    if ib a2 4096 then
    if ib r2.1 4096 then
    lt (pI r2.2 135 (ix r2.1) (r2.2.1 135 (ix a2))) (fun c7 =>
    Option.bind (whl (cpB n a2 r2.1) n (0, c7))
    (fun x22 : cS =>
      j82 x22))
    else none
    else none))
  else none := rfl
def qPz (z A l : Nat) : Bool := decide ((A = 136 ∧ l = z) ∨ (139 ≤ A ∧ A ≤ 141 ∧ z * 4 ≤ l ∧ l < z * 4 + 4))
theorem cpB_lp (hx : x < 4096) (hz : z < 4096) (hxz : x ≠ z) {l0 : List (Int64 × Nat × Int64)} (h4 : l0.length ≤ 4) (hs : ∀ e, e ∈ l0 → 1 ≤ e.2.1 ∧ e.2.1 ≤ 3) : ∀ (rr k t : Nat) (w : cS), k + rr = l0.length → rr < t → PCl w x l0 → PCl w z (l0.take k) → ∃ d, whl (cpB n (nI x) (nI z)) t (nI k, w) = some d ∧ PCl d z l0 ∧ sx (qPz z) w d
  | 0, k, t, w, hk, ht, h1, h2 => by
    obtain ⟨t', rfl⟩ : ∃ t', t = t' + 1 := ⟨t - 1, by omega⟩
    refine ⟨w, whl_out ?_, ?_, sx_rfl⟩
    · unfold cpB
      dsimp only
      rw [show ix (nI x) = x from ix_n (by omega), h1.1]
      exact eq_wp (wpt (ib_n hx (by decide)) (wpt (by rw [show k = l0.length by omega]; exact nI_le (Nat.le_refl _) (by omega)) rfl))
    · rw [List.take_of_length_le (by omega)] at h2
      exact h2
  | rr + 1, k, t, w, hk, ht, h1, h2 => by
    obtain ⟨t', rfl⟩ : ∃ t', t = t' + 1 := ⟨t - 1, by omega⟩
    have hkl : k < l0.length := by omega
    obtain ⟨e, he⟩ : ∃ e, l0[k]? = some e := ⟨l0[k], List.getElem?_eq_getElem hkl⟩
    obtain ⟨g1, g2, g3⟩ := h1.2 k e he
    obtain ⟨s1, s2⟩ := hs e (List.mem_of_getElem? he)
    have htl : (l0.take k).length = k := by
      rw [List.length_take]
      omega
    have e4 : nI x * 4 + nI k = nI (x * 4 + k) := by rw [show (4 : Int32) = nI 4 from rfl, pk_mul, nI_add]
    have h22 := h2.1
    rw [htl] at h22
    have hst : cpB n (nI x) (nI z) (nI k, w) = some (.inl (nI (k + 1), adC w z k e.1 (nI e.2.1) e.2.2)) := by
      unfold cpB
      dsimp only
      have hib : ib (nI (x * 4 + k)) 16384 := ib_n (by omega) (by decide)
      rw [show ix (nI x) = x from ix_n (by omega), h1.1, e4]
      refine eq_wp (wpt (ib_n hx (by decide)) (wpf (by simp (disch := first | omega | decide) only [↓neg1, nlit, rI, rL, rI2, rL1, nI_add, pk_mul, sbT, dvT, nmd, ixT, ↓ibT, ltT, ltF, leT, leF, eqT, eqF, nM_ltT, nM_ltF, nM_leT, nM_leF, nM_eqF, nM_eqF', nbT0, nbT1, oI_s, oI_n, natF, natT, nltT, nltF, nleT, nleF, ↓reduceIte, lgc, not_true_eq_false, not_false_eq_true, or_false, false_or, or_true, true_or, and_true, true_and, and_false, false_and, ne_eq, eq_self, or_self, and_self]) (wpl ?_)))
      rw [show ix (nI (x * 4 + k)) = x * 4 + k from ix_n (by omega), g1, g2, g3]
      refine wpt hib (wpt hib (wpt hib (wpe (e225 hz (by omega) h22 (by omega)) (wpl ?_))))
      rw [nI_1]
      rfl
    have s1 : sx (qPz z) w (adC w z k e.1 (nI e.2.1) e.2.2) := sx_pI (sx_pL (sx_pI (sx_pL sx_rfl (decide_eq_true (by omega))) (decide_eq_true (by omega))) (decide_eq_true (by omega))) (decide_eq_true (by omega))
    have hP1 : PCl (adC w z k e.1 (nI e.2.1) e.2.2) x l0 := by
      refine ⟨by rw [s1.1 _ _ (decide_eq_false (by omega))]; exact h1.1, fun q y hy => ?_⟩
      have hq : q < l0.length := by
        by_cases y : q < l0.length
        · exact y
        · rw [List.getElem?_eq_none (by omega)] at hy
          cases hy
      rw [s1.2 _ _ (decide_eq_false (by omega)), s1.1 _ _ (decide_eq_false (by omega)), s1.2 _ _ (decide_eq_false (by omega))]
      exact h1.2 q y hy
    have hP2 : PCl (adC w z k e.1 (nI e.2.1) e.2.2) z (l0.take (k + 1)) := by
      have := PCl_ad (e := e) h2
      rw [htl] at this
      rw [List.take_succ, he]
      exact this
    obtain ⟨d, k1, k2, k3⟩ := cpB_lp hx hz hxz h4 hs rr (k + 1) t' _ (by omega) (by omega) hP1 hP2
    exact ⟨d, (whl_in hst).trans k1, k2, sx_trans s1 k3⟩
def qAq (r z la A l : Nat) : Bool := decide ((A = 133 ∧ 11 ≤ l ∧ l ≤ 13) ∨ (A = 138 ∧ (l = z ∨ l = la)) ∨ (142 ≤ A ∧ A ≤ 144 ∧ l = r) ∨ (134 ≤ A ∧ A ≤ 137 ∧ l = z) ∨ (139 ≤ A ∧ A ≤ 141 ∧ z * 4 ≤ l ∧ l < z * 4 + 4))
/-- a copy of MARK x at the end of row r -/
theorem e226 {l : List (Int64 × Nat × Int64)} (hn : 100 ≤ n) (hA : ALO c V F sz X Y) (hr : r < 2242) (hV : V < 4096) (hx : x < 4096) (hxz : x ≠ nxC V F Y) (hM : MKc c x (nm, some l)) (hO : fOk (nm, some l)) : ∃ d, d_226 n (nI r) (nI x) c = some d ∧ ALO d (V + 1) (F - 1) (upZ sz r (sz r + 1)) (upX X r (sz r) (nxC V F Y)) (fun k => Y (k + 1)) ∧ MKc d (nxC V F Y) (nm, some l) ∧ nxC V F Y < 4096 ∧ (∀ r' i, r' < 2242 → i < sz r' → X r' i ≠ nxC V F Y) ∧ sx (qAq r (nxC V F Y) (X r (sz r - 1))) c d := by
  obtain ⟨d1, a1, a2, a3, a4, a5, a6, a7, a8, a9⟩ := al_224 (n := n) (nm := nm) hA hr hV
  obtain ⟨z, hz⟩ : ∃ z, z = nxC V F Y := ⟨_, rfl⟩
  obtain ⟨la, hla⟩ : ∃ la, la = X r (sz r - 1) := ⟨_, rfl⟩
  rw [← hz] at a1 a2 a3 a4 a5 a6 a7 a8 a9 hxz ⊢
  rw [← hla] at a9 ⊢
  obtain ⟨m1, m2, m3⟩ := hM
  obtain ⟨p1, p2⟩ := m3 l rfl
  obtain ⟨o1, o2⟩ := hO l rfl
  have ex : ix (nI x) = x := ix_n (by omega)
  have ez : ix (nI z) = z := ix_n (by omega)
  have hix : ib (nI x) 4096 := ib_n hx (by decide)
  have hiz : ib (nI z) 4096 := ib_n a3 (by decide)
  have s7 : sx (qAq r z la) c (pI d1 135 z (d1.1 135 x)) := sx_pI (sx_wide a9 (fun A l y => by
    have := of_decide_eq_false y
    exact decide_eq_false (by omega))) (decide_eq_true (by omega))
  obtain ⟨d, k1, k2, k3⟩ := cpB_lp (n := n) hx a3 hxz o1 o2 l.length 0 n (pI d1 135 z (d1.1 135 x)) (by omega) (by omega) ⟨by
      rw [s7.1 _ _ (decide_eq_false (by omega))]
      exact p1, fun q e he => by
      have hq : q < l.length := by
        by_cases y : q < l.length
        · exact y
        · rw [List.getElem?_eq_none (by omega)] at he
          cases he
      rw [s7.2 _ _ (decide_eq_false (by omega)), s7.1 _ _ (decide_eq_false (by omega)), s7.2 _ _ (decide_eq_false (by omega))]
      exact p2 q e he⟩ ⟨by
      rw [rI, if_neg (by omega)]
      exact a7, fun q e he => by cases he⟩
  refine ⟨d, ?_, ALO_cg a2 (fun A l y => by rw [k3.1 _ _ (decide_eq_false (by omega)), rI, if_neg (by omega)]), ⟨?_, (fun y => by cases y), fun l' hl' => ?_⟩, a3, a4, sx_trans s7 (sx_wide k3 (fun A l y => by
    have := of_decide_eq_false y
    exact decide_eq_false (by omega)))⟩
  · rw [d226_s, ex, m1]
    refine eq_wp (wpt hix (wpe a1 (wpj (wpf (nI_pos (by omega)) (wpt hix (wpt hiz ?_))))))
    dsimp only
    rw [ez]
    exact wpl (wpe k1 rfl)
  · rw [k3.2 _ _ (decide_eq_false (by omega))]
    exact a5
  · cases hl'
    exact k2
end MVXS
