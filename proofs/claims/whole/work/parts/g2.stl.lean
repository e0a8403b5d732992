/-! A row is settled: what MARKS are, which COUNT -/
section STLS
variable {n r s V F x oc kc t : Nat} {c d w m : cS} {sz : Nat → Nat} {X : Nat → Nat → Nat} {Y : Nat → Nat} {nm v : Int64}
theorem tgt_m : tgt m (ocn m) (kcn m) nm = tOf m nm := by
  unfold tgt tOf
  rfl
theorem NMQ_ec (hO : OOS c m) (hK : KKS c m) : NMQ c m (ocn m) (kcn m) := by
  refine ⟨⟨hO.1, hO.2.1, hO.2.2.1, fun o ho => ?_⟩, ⟨hK.1, hK.2.1, hK.2.2.1, fun k hk => (hK.2.2.2.1 k hk).1⟩⟩
  obtain ⟨E, hR⟩ := hO.2.2.2 o ho
  exact hR.2.2.1
theorem e246m (hn : 100 ≤ n) (hO : OOS c m) (hK : KKS c m) : d_246 n nm c = some (oI (tOf m nm)) := by
  rw [f246t hn (NMQ_ec hO hK), tgt_m]
theorem tOf_b (hO : OOS c m) (hK : KKS c m) (h : tOf m nm = some t) : (t < 12 ∨ (100 ≤ t ∧ t < 104)) ∧ (t < 12 → RK c m t) ∧ (∀ nm', tOf m nm' = some t → nm' = nm) := by
  have h4 := hO.1
  have h12 := hK.1
  have hN := hK.2.2.2.2.1
  obtain ⟨k1, k2⟩ := ky_of hN h h12
  refine ⟨?_, fun z => ?_, fun nm' h' => ?_⟩
  · rcases k1 with z | z
    · exact Or.inl (by omega)
    · exact Or.inr (by omega)
  · rcases k1 with y | y
    · exact hK.2.2.2.1 t y
    · omega
  · obtain ⟨-, k4⟩ := ky_of hN h' h12
    rw [← k2, ← k4]
def sL1 (n : Nat) (a1 : Int32) (s8 : Int32 × Int32 × cS) : Option ((Int32 × Int32 × cS) ⊕ cS) :=
    if ib a1 2242 then
    if (s8.2.2.1 144 (ix a1)) ≤ s8.2.1 then
      some (.inr s8.2.2)
    else
      if ib s8.1 4096 then
      Option.bind (d_246 n (s8.2.2.2 134 (ix s8.1)) s8.2.2) (fun v11 =>
      if ib s8.1 4096 then
      lt (pI s8.2.2 135 (ix s8.1) v11) (fun c13 =>
      if ib s8.1 4096 then
      lt ((c13.1 138 (ix s8.1)) : Int32) (fun v17 =>
      lt (s8.2.1 + 1 : Int32) (fun v20 =>
      some (.inl (v17, v20, c13))))
      else none)
      else none)
      else none
    else none
def sL2 (n : Nat) (a1 a2 : Int32) (s28 : Int32 × Int32 × cS) : Option ((Int32 × Int32 × cS) ⊕ cS) :=
      if ib a1 2242 then
      if (s28.2.2.1 144 (ix a1)) ≤ s28.2.1 then
        some (.inr s28.2.2)
      else
        if ib s28.1 4096 then
        lt ((s28.2.2.1 135 (ix s28.1)) : Int32) (fun v32 =>
        jn (fun p34 : Int32 =>
          if ib s28.1 4096 then
          lt (pI s28.2.2 137 (ix s28.1) (vp_nar .boolean p34)) (fun c36 =>
          if ib s28.1 4096 then
          lt ((c36.1 138 (ix s28.1)) : Int32) (fun v40 =>
          lt (s28.2.1 + 1 : Int32) (fun v43 =>
          some (.inl (v40, v43, c36))))
          else none)
          else none)
        (fun j165 =>
        jn (fun p45 : Unit =>
          j165 0)
        (fun j164 =>
        if v32 < 0 then
          j164 ()
        else
          Option.bind (d_250 n v32 a2 s28.2.2) (fun v46 =>
          if v46 = 0 then
            j164 ()
          else
            Option.bind (d_251 n v32 s28.2.2) (fun v47 =>
            jn (fun p48 : Unit =>
              j165 1)
            (fun j160 =>
            if v47 = 0 then
              Option.bind (d_179 n a1 v32 s28.2.2) (fun v49 =>
              if v49 = 1 then
                j160 ()
              else
                j164 ())
            else
              j160 ()))))))
        else none
      else none
theorem d178_s {a1 a2 : Int32} : d_178 n a1 a2 c = lt (pI c 146 8 1) (fun c1 =>
  if ib a1 2242 then
  lt ((c1.1 142 (ix a1)) : Int32) (fun v5 =>
  Option.bind (whl (sL1 n a1) n (v5, 0, c1))
  (fun x22 : cS =>
    if ib a1 2242 then
    lt ((x22.1 142 (ix a1)) : Int32) (fun v25 =>
    Option.bind (whl (sL2 n a1 a2) n (v25, 0, x22))
    (fun x50 : cS =>
      some x50))
    else none))
  else none) := rfl
/-- how many MARKS of a row are of one ORDER or KIND -/
theorem e179 {T : Nat → Int32} (hn : 5000 ≤ n) (hA : ALO c V F sz X Y) (hr : r < 2242) (h135 : ∀ i, i < sz r → c.1 135 (X r i) = T i) (y : Int32) : d_179 n (nI r) y c = some (nI (cntN (fun i => decide (T i = y)) (sz r))) := by
  have hsz := ALO_sz hA hr
  obtain ⟨h1, h2, h3, h4, h5, h6, h7, -⟩ := hA
  have hir : ib (nI r) 2242 := ib_n hr (by decide)
  have er : ix (nI r) = r := ix_n (by omega)
  unfold d_179
  rw [er]
  refine eq_wp (wpt hir (wpl (wpc (K' := fun q : Int32 => q = nI (cntN (fun i => decide (T i = y)) (sz r))) (whl_cnt (fun k (st : Int32 × Int32 × Int32) => st.1 = nI (cntN (fun i => decide (T i = y)) k) ∧ (k < sz r → st.2.1 = nI (X r k)) ∧ st.2.2 = nI k) (sz r) ?_ ?_ (by omega) ⟨rfl, fun z => (h5 r hr z).1, rfl⟩) (fun q hq => by rw [hq]; rfl))))
  · rintro k ⟨a, b, k0⟩ hk ⟨g1, g2, g3⟩
    dsimp only at g1 g2 g3
    have g2 := g2 hk
    subst g1 g2 g3
    have hx := h6 r k hr hk
    have ex : ix (nI (X r k)) = X r k := ix_n (by omega)
    have hix : ib (nI (X r k)) 4096 := ib_n (by omega) (by decide)
    dsimp only
    rw [h4 r hr, ex, h135 k hk]
    refine wpt hir (wpf (by simp (disch := first | omega | decide) only [↓neg1, nlit, rI, rL, rI2, rL1, nI_add, pk_mul, sbT, dvT, nmd, ixT, ↓ibT, ltT, ltF, leT, leF, eqT, eqF, nM_ltT, nM_ltF, nM_leT, nM_leF, nM_eqF, nM_eqF', nbT0, nbT1, oI_s, oI_n, natF, natT, nltT, nltF, nleT, nleF, ↓reduceIte, lgc, not_true_eq_false, not_false_eq_true, or_false, false_or, or_true, true_or, and_true, true_and, and_false, false_and, ne_eq, eq_self, or_self, and_self]) (wpt hix (wpj ?_)))
    have fin : ∀ z : Int32, nI (cntN (fun i => decide (T i = y)) k) + z = nI (cntN (fun i => decide (T i = y)) (k + 1)) → wp (lt (nI (cntN (fun i => decide (T i = y)) k) + z : Int32) (fun v12 =>
        if ib (nI (X r k)) 4096 then
        lt ((c.1 138 (X r k)) : Int32) (fun v16 =>
        lt (nI k + 1 : Int32) (fun v19 =>
        (some (.inl (v12, v16, v19)) : Option ((Int32 × Int32 × Int32) ⊕ Int32))))
        else none)) (Sum.elim (fun st : Int32 × Int32 × Int32 => st.1 = nI (cntN (fun i => decide (T i = y)) (k + 1)) ∧ (k + 1 < sz r → st.2.1 = nI (X r (k + 1))) ∧ st.2.2 = nI (k + 1)) (fun q : Int32 => q = nI (cntN (fun i => decide (T i = y)) (sz r)))) := fun z hz => wpl (wpt hix (wpl (wpl ⟨hz, fun z2 => h7 r k hr z2, nI_1 k⟩)))
    by_cases e : T k = y
    · refine wpt e (fin 1 ?_)
      rw [nI_1, cntN_s, if_pos (decide_eq_true e)]
    · refine wpf e (fin 0 ?_)
      rw [cntN_s, if_neg (by rw [decide_eq_false e]; decide)]
      exact Int32.add_zero _
  · rintro ⟨a, b, k0⟩ ⟨g1, g2, g3⟩
    dsimp only at g1 g2 g3
    subst g1 g3
    dsimp only
    rw [h4 r hr]
    exact wpt hir (wpt (by simp (disch := first | omega | decide) only [↓neg1, nlit, rI, rL, rI2, rL1, nI_add, pk_mul, sbT, dvT, nmd, ixT, ↓ibT, ltT, ltF, leT, leF, eqT, eqF, nM_ltT, nM_ltF, nM_leT, nM_leF, nM_eqF, nM_eqF', nbT0, nbT1, oI_s, oI_n, natF, natT, nltT, nltF, nleT, nleF, ↓reduceIte, lgc, not_true_eq_false, not_false_eq_true, or_false, false_or, or_true, true_or, and_true, true_and, and_false, false_and, ne_eq, eq_self, or_self, and_self]) rfl)
/-- what settling looks at -/
def STP (c m : cS) : Prop := NMQ c m (ocn m) (kcn m) ∧ (∀ k, k < kcn m → RK c m k) ∧ NMS m ∧ kcn m ≤ 12 ∧ ocn m ≤ 4
theorem STP_of (hO : OOS c m) (hK : KKS c m) : STP c m := ⟨NMQ_ec hO hK, hK.2.2.2.1, hK.2.2.2.2.1, hK.1, hO.1⟩
theorem STP_cg (h : STP c m) (hc : ∀ A l, A < 114 → w.1 A l = c.1 A l ∧ w.2 A l = c.2 A l) : STP w m := by
  obtain ⟨h1, h2, h3, h4, h5⟩ := h
  refine ⟨NMQ_cg h1 (fun j _ => (hc 7 j (by decide)).1) (fun o ho => (hc _ _ (by unfold oA; omega)).2) (fun k hk => (hc _ _ (by unfold kA; omega)).2) (fun _ _ => rfl) (fun _ _ => rfl) (fun _ _ => rfl), fun k hk => ?_, h3, h4, h5⟩
  exact RK_cg (h2 k hk) (fun A j _ z => hc A j (by unfold kA at z; omega)) (fun _ _ _ _ => ⟨rfl, rfl⟩)
theorem s246m (hn : 100 ≤ n) (h : STP c m) : d_246 n nm c = some (oI (tOf m nm)) := by
  rw [f246t hn h.1, tgt_m]
theorem sOf_b (hS : STP c m) (h : tOf m nm = some t) : (t < 12 ∨ (100 ≤ t ∧ t < 104)) ∧ (t < 12 → RK c m t) ∧ (∀ nm', tOf m nm' = some t → nm' = nm) := by
  obtain ⟨-, h2, hN, h12, h4⟩ := hS
  obtain ⟨k1, k2⟩ := ky_of hN h h12
  refine ⟨?_, fun z => ?_, fun nm' h' => ?_⟩
  · rcases k1 with z | z
    · exact Or.inl (by omega)
    · exact Or.inr (by omega)
  · rcases k1 with y | y
    · exact h2 t y
    · omega
  · obtain ⟨-, k4⟩ := ky_of hN h' h12
    rw [← k2, ← k4]
/-- the first pass: what MARKS are -/
theorem sl1_go {N : Nat → Int64} (hn : 5000 ≤ n) (hA : ALO c V F sz X Y) (hr : r < 2242) (hS : STP c m) (hnm : ∀ i, i < sz r → c.2 134 (X r i) = N i) : ∃ d, whl (sL1 n (nI r)) n (c.1 142 r, 0, c) = some d ∧ (∀ i, i < sz r → d.1 135 (X r i) = oI (tOf m (N i))) ∧ (∀ A l, ¬ (A = 135 ∧ ∃ i, i < sz r ∧ l = X r i) → d.1 A l = c.1 A l) ∧ d.2 = c.2 := by
  have hsz := ALO_sz hA hr
  obtain ⟨h1, h2, h3, h4, h5, h6, h7, h8, -⟩ := id hA
  have hir : ib (nI r) 2242 := ib_n hr (by decide)
  have er : ix (nI r) = r := ix_n (by omega)
  refine wp_ex (whl_cnt (fun k (st : Int32 × Int32 × cS) => (k < sz r → st.1 = nI (X r k)) ∧ st.2.1 = nI k ∧ (∀ i, i < k → st.2.2.1 135 (X r i) = oI (tOf m (N i))) ∧ (∀ A l, ¬ (A = 135 ∧ ∃ i, i < k ∧ l = X r i) → st.2.2.1 A l = c.1 A l) ∧ st.2.2.2 = c.2) (sz r) ?_ ?_ (by omega) ⟨fun z => (h5 r hr z).1, rfl, fun i hi => absurd hi (Nat.not_lt_zero _), fun A l _ => rfl, rfl⟩)
  · rintro k ⟨a, b, w⟩ hk ⟨g1, g2, g3, g4, g5⟩
    dsimp only at g1 g2 g3 g4 g5
    have g1 := g1 hk
    subst g1 g2
    have hx := h6 r k hr hk
    have ex : ix (nI (X r k)) = X r k := ix_n (by omega)
    have hix : ib (nI (X r k)) 4096 := ib_n (by omega) (by decide)
    have hw : STP w m := STP_cg hS (fun A l z => ⟨g4 A l (by omega), by rw [g5]⟩)
    unfold sL1
    dsimp only
    rw [er, g4 144 r (by omega), h4 r hr, ex, g5, hnm k hk]
    refine wpt hir (wpf (by simp (disch := first | omega | decide) only [↓neg1, nlit, rI, rL, rI2, rL1, nI_add, pk_mul, sbT, dvT, nmd, ixT, ↓ibT, ltT, ltF, leT, leF, eqT, eqF, nM_ltT, nM_ltF, nM_leT, nM_leF, nM_eqF, nM_eqF', nbT0, nbT1, oI_s, oI_n, natF, natT, nltT, nltF, nleT, nleF, ↓reduceIte, lgc, not_true_eq_false, not_false_eq_true, or_false, false_or, or_true, true_or, and_true, true_and, and_false, false_and, ne_eq, eq_self, or_self, and_self]) (wpt hix (wpe (s246m (by omega) hw) (wpt hix (wpl (wpt hix ?_))))))
    rw [show (pI w 135 (X r k) (oI (tOf m (N k)))).1 138 (X r k) = c.1 138 (X r k) by rw [rI, if_neg (by omega)]; exact g4 _ _ (by omega)]
    refine wpl (wpl ⟨fun z => h7 r k hr z, nI_1 k, fun i hi => ?_, fun A l z => ?_, g5⟩)
    · show (pI w 135 (X r k) (oI (tOf m (N k)))).1 135 (X r i) = _
      by_cases e : i = k
      · rw [e, rI, if_pos ⟨rfl, rfl⟩]
      · rw [rI, if_neg (fun z => e (h8 r i r k hr (by omega) hr hk z.2).2)]
        exact g3 i (by omega)
    · show (pI w 135 (X r k) (oI (tOf m (N k)))).1 A l = _
      rw [rI, if_neg (fun y => z ⟨y.1, k, by omega, y.2⟩)]
      exact g4 A l (fun y => by
        obtain ⟨y1, i, y2, y3⟩ := y
        exact z ⟨y1, i, by omega, y3⟩)
  · rintro ⟨a, b, w⟩ ⟨g1, g2, g3, g4, g5⟩
    dsimp only at g1 g2 g3 g4 g5
    subst g2
    unfold sL1
    dsimp only
    rw [er, g4 144 r (by omega), h4 r hr]
    exact wpt hir (wpt (by simp (disch := first | omega | decide) only [↓neg1, nlit, rI, rL, rI2, rL1, nI_add, pk_mul, sbT, dvT, nmd, ixT, ↓ibT, ltT, ltF, leT, leF, eqT, eqF, nM_ltT, nM_ltF, nM_leT, nM_leF, nM_eqF, nM_eqF', nbT0, nbT1, oI_s, oI_n, natF, natT, nltT, nltF, nleT, nleF, ↓reduceIte, lgc, not_true_eq_false, not_false_eq_true, or_false, false_or, or_true, true_or, and_true, true_and, and_false, false_and, ne_eq, eq_self, or_self, and_self]) ⟨g3, g4, g5⟩)
/-- whether a MARK COUNTS -/
def dcX (m : cS) (s : Nat) (T : Nat → Option Nat) (z i : Nat) : Bool := match T i with
  | some t => cst m t s && (mny m t || decide (cntN (fun j => decide (oI (T j) = nI t)) z = 1))
  | none => false
theorem sl2_go {T : Nat → Option Nat} (hn : 5000 ≤ n) (hA : ALO c V F sz X Y) (hr : r < 2242) (hs : s < 4) (hS : STP c m) (hT : ∀ i, i < sz r → c.1 135 (X r i) = oI (T i)) (hb : ∀ i t, i < sz r → T i = some t → (t < 12 ∨ (100 ≤ t ∧ t < 104)) ∧ (t < 12 → RK c m t)) : ∃ d, whl (sL2 n (nI r) (nI s)) n (c.1 142 r, 0, c) = some d ∧ (∀ i, i < sz r → d.1 137 (X r i) = bI (dcX m s T (sz r) i)) ∧ (∀ A l, ¬ (A = 137 ∧ ∃ i, i < sz r ∧ l = X r i) → d.1 A l = c.1 A l) ∧ d.2 = c.2 := by
  have hsz := ALO_sz hA hr
  obtain ⟨h1, h2, h3, h4, h5, h6, h7, h8, -⟩ := id hA
  have hir : ib (nI r) 2242 := ib_n hr (by decide)
  have er : ix (nI r) = r := ix_n (by omega)
  refine wp_ex (whl_cnt (fun k (st : Int32 × Int32 × cS) => (k < sz r → st.1 = nI (X r k)) ∧ st.2.1 = nI k ∧ (∀ i, i < k → st.2.2.1 137 (X r i) = bI (dcX m s T (sz r) i)) ∧ (∀ A l, ¬ (A = 137 ∧ ∃ i, i < k ∧ l = X r i) → st.2.2.1 A l = c.1 A l) ∧ st.2.2.2 = c.2) (sz r) ?_ ?_ (by omega) ⟨fun z => (h5 r hr z).1, rfl, fun i hi => absurd hi (Nat.not_lt_zero _), fun A l _ => rfl, rfl⟩)
  · rintro k ⟨a, b, w⟩ hk ⟨g1, g2, g3, g4, g5⟩
    dsimp only at g1 g2 g3 g4 g5
    have g1 := g1 hk
    subst g1 g2
    have hx := h6 r k hr hk
    have ex : ix (nI (X r k)) = X r k := ix_n (by omega)
    have hix : ib (nI (X r k)) 4096 := ib_n (by omega) (by decide)
    have hw : STP w m := STP_cg hS (fun A l z => ⟨g4 A l (by omega), by rw [g5]⟩)
    have hAw : ALO w V F sz X Y := ALO_cg hA (fun A l z => g4 A l (by omega))
    have fin : ∀ x : Bool, x = dcX m s T (sz r) k → wp (if ib (nI (X r k)) 4096 then
          lt (pI w 137 (X r k) (vp_nar .boolean (bI x))) (fun c36 =>
          if ib (nI (X r k)) 4096 then
          lt ((c36.1 138 (X r k)) : Int32) (fun v40 =>
          lt (nI k + 1 : Int32) (fun v43 =>
          (some (.inl (v40, v43, c36)) : Option ((Int32 × Int32 × cS) ⊕ cS))))
          else none)
          else none) (Sum.elim (fun st : Int32 × Int32 × cS => (k + 1 < sz r → st.1 = nI (X r (k + 1))) ∧ st.2.1 = nI (k + 1) ∧ (∀ i, i < k + 1 → st.2.2.1 137 (X r i) = bI (dcX m s T (sz r) i)) ∧ (∀ A l, ¬ (A = 137 ∧ ∃ i, i < k + 1 ∧ l = X r i) → st.2.2.1 A l = c.1 A l) ∧ st.2.2.2 = c.2) (fun d : cS => (∀ i, i < sz r → d.1 137 (X r i) = bI (dcX m s T (sz r) i)) ∧ (∀ A l, ¬ (A = 137 ∧ ∃ i, i < sz r ∧ l = X r i) → d.1 A l = c.1 A l) ∧ d.2 = c.2)) := fun x hx => by
      rw [show vp_nar .boolean (bI x) = bI x by cases x <;> rfl]
      refine wpt hix (wpl (wpt hix ?_))
      rw [show (pI w 137 (X r k) (bI x)).1 138 (X r k) = c.1 138 (X r k) by rw [rI, if_neg (by omega)]; exact g4 _ _ (by omega)]
      refine wpl (wpl ⟨fun z => h7 r k hr z, nI_1 k, fun i hi => ?_, fun A l z => ?_, g5⟩)
      · show (pI w 137 (X r k) (bI x)).1 137 (X r i) = _
        by_cases e : i = k
        · rw [e, rI, if_pos ⟨rfl, rfl⟩, hx]
        · rw [rI, if_neg (fun z => e (h8 r i r k hr (by omega) hr hk z.2).2)]
          exact g3 i (by omega)
      · show (pI w 137 (X r k) (bI x)).1 A l = _
        rw [rI, if_neg (fun y => z ⟨y.1, k, by omega, y.2⟩)]
        exact g4 A l (fun y => by
          obtain ⟨y1, i, y2, y3⟩ := y
          exact z ⟨y1, i, by omega, y3⟩)
    unfold sL2
    dsimp only
    rw [er, g4 144 r (by omega), h4 r hr, ex, g4 135 _ (by omega), hT k hk]
    refine wpt hir (wpf (by simp (disch := first | omega | decide) only [↓neg1, nlit, rI, rL, rI2, rL1, nI_add, pk_mul, sbT, dvT, nmd, ixT, ↓ibT, ltT, ltF, leT, leF, eqT, eqF, nM_ltT, nM_ltF, nM_leT, nM_leF, nM_eqF, nM_eqF', nbT0, nbT1, oI_s, oI_n, natF, natT, nltT, nltF, nleT, nleF, ↓reduceIte, lgc, not_true_eq_false, not_false_eq_true, or_false, false_or, or_true, true_or, and_true, true_and, and_false, false_and, ne_eq, eq_self, or_self, and_self]) (wpt hix (wpl (wpj (wpj ?_)))))
    cases et : T k with
    | none => exact wpt (by decide) (fin false (by unfold dcX; rw [et]))
    | some t =>
      obtain ⟨b1, b2⟩ := hb k t hk et
      have b3 : t < 12 → RK w m t := fun z => by
        obtain ⟨k1, k2⟩ := hw.2
        exact RK_cg (b2 z) (fun A j _ y => ⟨g4 A j (by unfold kA at y; omega), by rw [g5]⟩) (fun _ _ _ _ => ⟨rfl, rfl⟩)
      refine wpf (nI_pos (by omega)) (wpe (e250 b1 b3 hs) ?_)
      cases e1 : cst m t s with
      | false => exact wpt rfl (fin false (by unfold dcX; rw [et]; dsimp only; rw [e1, Bool.false_and]))
      | true =>
        refine wpf (by decide) (wpe (e251 b1 b3) (wpj ?_))
        cases e2 : mny m t with
        | true => exact wpf (by decide) (fin true (by unfold dcX; rw [et]; dsimp only; rw [e1, e2, Bool.true_and, Bool.true_or]))
        | false =>
          refine wpt rfl (wpe (e179 hn hAw hr (T := fun i => oI (T i)) (fun i hi => by rw [g4 135 _ (by omega)]; exact hT i hi) (nI t)) ?_)
          have hc := cntN_le (p := fun i => decide (oI (T i) = nI t)) (sz r)
          by_cases e3 : cntN (fun i => decide (oI (T i) = nI t)) (sz r) = 1
          · exact wpt (by rw [e3]; rfl) (fin true (by unfold dcX; rw [et]; dsimp only; rw [e1, e2, Bool.true_and, Bool.false_or, decide_eq_true e3]))
          · exact wpf (fun z => e3 ((nI_eq (by omega) (by decide)).mp (show _ = nI 1 from z))) (fin false (by unfold dcX; rw [et]; dsimp only; rw [e1, e2, Bool.true_and, Bool.false_or, decide_eq_false e3]))
  · rintro ⟨a, b, w⟩ ⟨g1, g2, g3, g4, g5⟩
    dsimp only at g1 g2 g3 g4 g5
    subst g2
    unfold sL2
    dsimp only
    rw [er, g4 144 r (by omega), h4 r hr]
    exact wpt hir (wpt (by simp (disch := first | omega | decide) only [↓neg1, nlit, rI, rL, rI2, rL1, nI_add, pk_mul, sbT, dvT, nmd, ixT, ↓ibT, ltT, ltF, leT, leF, eqT, eqF, nM_ltT, nM_ltF, nM_leT, nM_leF, nM_eqF, nM_eqF', nbT0, nbT1, oI_s, oI_n, natF, natT, nltT, nltF, nleT, nleF, ↓reduceIte, lgc, not_true_eq_false, not_false_eq_true, or_false, false_or, or_true, true_or, and_true, true_and, and_false, false_and, ne_eq, eq_self, or_self, and_self]) ⟨g3, g4, g5⟩)
theorem cntN_cg {p q : Nat → Bool} : ∀ t, (∀ i, i < t → p i = q i) → cntN p t = cntN q t
  | 0, _ => rfl
  | t + 1, h => by
    rw [cntN_s, cntN_s, cntN_cg t (fun i hi => h i (by omega)), h t (by omega)]
theorem dcX_n (hS : STP c m) (hz : mz m r = sz r) {i : Nat} (hi : i < sz r) : dcX m (si r) (fun i => tOf m (m.2 223 (r * 20 + i))) (sz r) i = dcn m r i := by
  unfold dcX dcn
  dsimp only
  cases e : tOf m (m.2 223 (r * 20 + i)) with
  | none => rfl
  | some t =>
    dsimp only
    unfold smn
    rw [hz]
    obtain ⟨b1, -, b3⟩ := sOf_b hS e
    have : cntN (fun j => decide (oI (tOf m (m.2 223 (r * 20 + j))) = nI t)) (sz r) = cntN (fun j => decide (m.2 223 (r * 20 + j) = m.2 223 (r * 20 + i))) (sz r) := cntN_cg _ (fun j hj => by
      by_cases e2 : m.2 223 (r * 20 + j) = m.2 223 (r * 20 + i)
      · rw [decide_eq_true e2, e2, e]
        exact decide_eq_true rfl
      · rw [decide_eq_false e2]
        refine decide_eq_false (fun z => e2 ?_)
        cases e4 : tOf m (m.2 223 (r * 20 + j)) with
        | none =>
          rw [e4] at z
          have : nM = nI t := z
          exact absurd (this ▸ (show nM < 0 by decide)) (nI_pos (by omega))
        | some t' =>
          rw [e4] at z
          obtain ⟨b4, -, -⟩ := sOf_b hS e4
          have : t' = t := (nI_eq (by omega) (by omega)).mp (show nI t' = nI t from z)
          exact b3 _ (by rw [e4, this]))
    rw [this]
theorem e178 (hn : 5000 ≤ n) (hA : ALO c V F sz X Y) (hr : r < 2242) (hs : si r < 4) (hS : STP c m) (hz : mz m r = sz r) (hnm : ∀ i, i < sz r → c.2 134 (X r i) = m.2 223 (r * 20 + i)) : ∃ d, d_178 n (nI r) (nI (si r)) c = some d ∧ ALO d V F sz X Y ∧ d.1 146 8 = nI 1 ∧ (∀ i, i < sz r → d.1 135 (X r i) = oI (tOf m (m.2 223 (r * 20 + i))) ∧ d.1 137 (X r i) = bI (dcn m r i)) ∧ (∀ A l, ¬ (A = 146 ∧ l = 8) → ¬ ((A = 135 ∨ A = 137) ∧ ∃ i, i < sz r ∧ l = X r i) → d.1 A l = c.1 A l) ∧ d.2 = c.2 := by
  have hir : ib (nI r) 2242 := ib_n hr (by decide)
  have er : ix (nI r) = r := ix_n (by omega)
  have r1 : ∀ A l, ¬ (A = 146 ∧ l = 8) → (pI c 146 8 1).1 A l = c.1 A l := fun A l z => by rw [rI, if_neg z]
  obtain ⟨x, x1, x2, x3, x4⟩ := sl1_go (N := fun i => m.2 223 (r * 20 + i)) hn (ALO_cg (d := pI c 146 8 1) hA (fun A l z => r1 A l (by omega))) hr (STP_cg (w := pI c 146 8 1) hS (fun A l z => ⟨r1 A l (by omega), rfl⟩)) hnm
  have hAx : ALO x V F sz X Y := ALO_cg hA (fun A l z => by rw [x3 A l (by omega), r1 A l (by omega)])
  have hSx : STP x m := STP_cg hS (fun A l z => ⟨by rw [x3 A l (by omega), r1 A l (by omega)], by rw [x4]; rfl⟩)
  obtain ⟨d, d1, d2, d3, d4⟩ := sl2_go (s := si r) (T := fun i => tOf m (m.2 223 (r * 20 + i))) hn hAx hr hs hSx x2 (fun i t hi ht => by
    obtain ⟨b1, b2, -⟩ := sOf_b hSx ht
    exact ⟨b1, b2⟩)
  refine ⟨d, ?_, ALO_cg hAx (fun A l z => d3 A l (by omega)), ?_, fun i hi => ⟨?_, ?_⟩, fun A l z1 z2 => ?_, ?_⟩
  · rw [d178_s]
    refine eq_wp (wpl (wpt hir ?_))
    rw [er]
    refine wpl (wpe x1 (wpt hir ?_))
    exact wpl (wpe d1 rfl)
  · rw [d3 _ _ (by omega), x3 _ _ (by omega), rI, if_pos ⟨rfl, rfl⟩]
    rfl
  · rw [d3 _ _ (by omega)]
    exact x2 i hi
  · rw [d2 i hi]
    exact congrArg bI (dcX_n hS hz hi)
  · rw [d3 A l (fun y => z2 ⟨Or.inr y.1, y.2⟩), x3 A l (fun y => z2 ⟨Or.inl y.1, y.2⟩), r1 A l z1]
  · rw [d4, x4]
    rfl
end STLS
