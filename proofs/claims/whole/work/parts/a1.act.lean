/-! an ACT written -/
def mkT (m : cS) (b : Nat) : Nat → List (List Nat)
  | 0 => []
  | k + 1 => mkT m b k ++ [[64], sg (m.2 181 (toR m b k)), [46], sg (m.2 183 (12 * toR m b k + teR m b k))]
def opT (m : cS) (M b : Nat) : List (List Nat) :=
  if opn m b = 14 then nt (m.1 214 b) ++ mkT m b (tdn m b)
  else if opn m b = 15 then mkT m b (tdn m b)
  else if opn m b = 16 ∨ opn m b = 17 then [sg (m.2 209 (8 * M + xN m b))]
  else if opn m b = 18 ∨ opn m b = 19 then [sg (m.2 200 (ix (m.1 229 b))), [46], sg (m.2 204 (8 * xN m b + yN m b))]
  else if opn m b = 20 then [sg (m.2 200 (ix (m.1 229 b))), [46], sg (m.2 206 (8 * xN m b + yN m b))]
  else if opn m b = 29 ∨ opn m b = 30 then [sg (m.2 181 (xN m b)), [46], sg (m.2 183 (12 * xN m b + yN m b))]
  else []
theorem wbs : wb 34 = [59] ∧ wb 49 = [64] ∧ wb 50 = [46] ∧ wb 35 = wb 42 := by decide +kernel
theorem OC_k {c d : cS} {L : List Nat} (h : OC c L) (h1 : d.1 172 1 = c.1 172 1) (h2 : ∀ i, d.1 173 i = c.1 173 i) : OC d L := ⟨h1.trans h.1, fun i a b => by rw [h2 i]; exact h.2 i a b⟩
theorem wb_ne {j : Nat} (h2 : 2 ≤ j) (hj : j < 58) : wb j ≠ [] := by
  have := tx_all ⟨j, hj⟩ h2
  unfold txOk at this
  rw [Bool.and_eq_true, decide_eq_true_iff] at this
  exact this.2
theorem WT_sx {c d : cS} {r : Nat → Nat → Bool} (h : WT c) (hs : sx r c d) (hr : ∀ i, r 6 i = false) : WT d := fun i hi => by
  rw [hs.2 6 i (hr i)]
  exact h i hi
section W
variable {n : Nat} {c m : cS} {L : List Nat}
/-- ORDER . ELEMENT -/
theorem e334 {o e : Nat} (hn : 1000 ≤ n) (hO : OOS c m) (ho : o < ocn m) (he : e < eln m o) (h : OC c L) : wp (d_334 n (nI o) (nI e) c) (fun d => OC d (puts L [sg (m.2 181 o), [46], sg (m.2 183 (12 * o + e))]) ∧ sx qO c d) := by
  have ho4 := hO.1
  have hel := OOS_el hO ho
  have hat := OOS_at hO ho
  unfold d_334
  refine wpt (by simp (disch := first | omega | decide) only [↓neg1, nlit, rI, rL, rI2, rL1, nI_add, pk_mul, sbT, dvT, nmd, ixT, ↓ibT, ltT, ltF, leT, leF, eqT, eqF, nM_ltT, nM_ltF, nM_leT, nM_leF, nM_eqF, nM_eqF', nbT0, nbT1, oI_s, oI_n, natF, natT, nltT, nltF, nleT, nleF, ↓reduceIte, lgc, not_true_eq_false, not_false_eq_true, or_false, false_or, or_true, true_or, and_true, true_and, and_false, false_and, ne_eq, eq_self, or_self, and_self]) ?_
  rw [ix_n (by omega), hat.2.2.1]
  refine wpc (e320 hn h) (fun d1 h1 => wpc (e322 (b := 46) (by decide) h1.1) (fun d2 h2 => ?_))
  have s2 := sx_trans h1.2 h2.2
  refine wpt (by simp (disch := first | omega | decide) only [↓neg1, nlit, rI, rL, rI2, rL1, nI_add, pk_mul, sbT, dvT, nmd, ixT, ↓ibT, ltT, ltF, leT, leF, eqT, eqF, nM_ltT, nM_ltF, nM_leT, nM_leF, nM_eqF, nM_eqF', nbT0, nbT1, oI_s, oI_n, natF, natT, nltT, nltF, nleT, nleF, ↓reduceIte, lgc, not_true_eq_false, not_false_eq_true, or_false, false_or, or_true, true_or, and_true, true_and, and_false, false_and, ne_eq, eq_self, or_self, and_self]) (wpt (by simp (disch := first | omega | decide) only [↓neg1, nlit, rI, rL, rI2, rL1, nI_add, pk_mul, sbT, dvT, nmd, ixT, ↓ibT, ltT, ltF, leT, leF, eqT, eqF, nM_ltT, nM_ltF, nM_leT, nM_leF, nM_eqF, nM_eqF', nbT0, nbT1, oI_s, oI_n, natF, natT, nltT, nltF, nleT, nleF, ↓reduceIte, lgc, not_true_eq_false, not_false_eq_true, or_false, false_or, or_true, true_or, and_true, true_and, and_false, false_and, ne_eq, eq_self, or_self, and_self]) ?_)
  rw [ix_n (by omega), s2.2 (oA o + 1) e (qO_no (by unfold oA; omega)), hat.2.2.2.1 e he]
  exact wpc (e320 hn h2.1) (fun d3 h3 => ⟨h3.1, sx_trans s2 h3.2⟩)
/-- a MARK told in an ACT -/
theorem e230t {x : Nat} {v : Int64} (hn : 1000 ≤ n) (hx : x < 4096) (h6 : c.1 136 x = nI 1) (h9 : c.2 139 (x * 4) = v) : d_230 n (nI x) v c = some (nI (x * 4)) := by
  unfold d_230
  refine bwf (fun k => nI k) (.inl ()) (fun k => .inr (nI k)) (fun k => decide (k = 0)) (cnt := 1) (by omega) rfl ?_ (fun j hj => ?_) ?_
  · simp (disch := first | omega | decide) only [↓neg1, nlit, rI, rL, rI2, rL1, nI_add, pk_mul, sbT, dvT, nmd, ixT, ↓ibT, ltT, ltF, leT, leF, eqT, eqF, nM_ltT, nM_ltF, nM_leT, nM_leF, nM_eqF, nM_eqF', nbT0, nbT1, oI_s, oI_n, natF, natT, nltT, nltF, nleT, nleF, ↓reduceIte, lgc, not_true_eq_false, not_false_eq_true, or_false, false_or, or_true, true_or, and_true, true_and, and_false, false_and, ne_eq, eq_self, or_self, and_self, obs, ↓jn, ↓lt, ↓reduceIte, decide_true, decide_false, Bool.false_eq_true, Bool.and_true, Bool.and_false, Bool.true_and, Bool.false_and, Bool.or_false, Bool.false_or, Bool.or_true, Bool.true_or, h6]
  · have hj : j = 0 := by omega
    subst hj
    simp (disch := first | omega | decide) only [↓neg1, nlit, rI, rL, rI2, rL1, nI_add, pk_mul, sbT, dvT, nmd, ixT, ↓ibT, ltT, ltF, leT, leF, eqT, eqF, nM_ltT, nM_ltF, nM_leT, nM_leF, nM_eqF, nM_eqF', nbT0, nbT1, oI_s, oI_n, natF, natT, nltT, nltF, nleT, nleF, ↓reduceIte, lgc, not_true_eq_false, not_false_eq_true, or_false, false_or, or_true, true_or, and_true, true_and, and_false, false_and, ne_eq, eq_self, or_self, and_self, obs, ↓jn, ↓lt, ↓reduceIte, decide_true, decide_false, Bool.false_eq_true, Bool.and_true, Bool.and_false, Bool.true_and, Bool.false_and, Bool.or_false, Bool.false_or, Bool.or_true, Bool.true_or, h6, h9, Nat.add_zero]
  · rw [show ff (fun k => decide (k = 0)) 1 = some 0 from rfl]
    show some (nI x * 4 + nI 0) = _
    rw [show (4 : Int32) = nI 4 from rfl, pk_mul, nI_add]
    rfl
theorem e227t {x : Nat} (hx : x < 4096) (h6 : c.1 136 x = nI 1) : d_227 n (nI x) c = some 0 := by
  unfold d_227
  simp (disch := first | omega | decide) only [↓neg1, nlit, rI, rL, rI2, rL1, nI_add, pk_mul, sbT, dvT, nmd, ixT, ↓ibT, ltT, ltF, leT, leF, eqT, eqF, nM_ltT, nM_ltF, nM_leT, nM_leF, nM_eqF, nM_eqF', nbT0, nbT1, oI_s, oI_n, natF, natT, nltT, nltF, nleT, nleF, ↓reduceIte, lgc, not_true_eq_false, not_false_eq_true, or_false, false_or, or_true, true_or, and_true, true_and, and_false, false_and, ne_eq, eq_self, or_self, and_self, obs, ↓jn, ↓lt, ↓reduceIte, decide_true, decide_false, Bool.false_eq_true, Bool.and_true, Bool.and_false, Bool.true_and, Bool.false_and, Bool.or_false, Bool.false_or, Bool.or_true, Bool.true_or, h6]
theorem at24 : pkN 40 (sB 40).length = 24948 ∧ asc 40 = true ∧ (sB 40).length < 1000 := by decide +kernel
theorem e231t {x o e : Nat} (hn : 1000 ≤ n) (hx : x < 4096) (hO : OOS c m) (ho : o < ocn m) (he : e < eln m o) (h6 : c.1 136 x = nI 1) (h9 : c.2 139 (x * 4) = 24948) (h0 : c.1 140 (x * 4) = nI 3) (h1 : c.2 141 (x * 4) = m.2 183 (12 * o + e)) : ∃ e', e' < eln m o ∧ m.2 183 (12 * o + e') = m.2 183 (12 * o + e) ∧ d_231 n (nI x) o c = some (nI e') := by
  have hel := OOS_el hO ho
  have h235 := e235 (n := n) (o := o) (v := m.2 183 (12 * o + e)) (by omega) hel.2.1 hel.2.2.2 (OOS_at hO ho).2.2.2.1
  have hex : ∃ e', eOf m o (m.2 183 (12 * o + e)) = some e' ∧ e' < eln m o ∧ m.2 183 (12 * o + e') = m.2 183 (12 * o + e) := by
    cases hf : eOf m o (m.2 183 (12 * o + e)) with
    | none =>
      have := ff_none hf e he
      exact absurd rfl (of_decide_eq_false this)
    | some e' =>
      obtain ⟨a1, a2, -⟩ := ff_some hf
      exact ⟨e', rfl, a1, of_decide_eq_true a2⟩
  obtain ⟨e', f1, f2, f3⟩ := hex
  refine ⟨e', f2, f3, ?_⟩
  rw [f1] at h235
  have h351 := e351 (n := n) hn at24.2.1 at24.2.2
  rw [at24.1] at h351
  unfold d_231
  refine eq_wp (wpe h351 (wpe (e230t hn hx h6 h9) (wpj (wpj (wpf (by simp (disch := first | omega | decide) only [↓neg1, nlit, rI, rL, rI2, rL1, nI_add, pk_mul, sbT, dvT, nmd, ixT, ↓ibT, ltT, ltF, leT, leF, eqT, eqF, nM_ltT, nM_ltF, nM_leT, nM_leF, nM_eqF, nM_eqF', nbT0, nbT1, oI_s, oI_n, natF, natT, nltT, nltF, nleT, nleF, ↓reduceIte, lgc, not_true_eq_false, not_false_eq_true, or_false, false_or, or_true, true_or, and_true, true_and, and_false, false_and, ne_eq, eq_self, or_self, and_self]) (wpt (by simp (disch := first | omega | decide) only [↓neg1, nlit, rI, rL, rI2, rL1, nI_add, pk_mul, sbT, dvT, nmd, ixT, ↓ibT, ltT, ltF, leT, leF, eqT, eqF, nM_ltT, nM_ltF, nM_leT, nM_leF, nM_eqF, nM_eqF', nbT0, nbT1, oI_s, oI_n, natF, natT, nltT, nltF, nleT, nleF, ↓reduceIte, lgc, not_true_eq_false, not_false_eq_true, or_false, false_or, or_true, true_or, and_true, true_and, and_false, false_and, ne_eq, eq_self, or_self, and_self]) ?_))))))
  rw [ix_n (by omega), h0, h1]
  exact wpt rfl (wpt (by simp (disch := first | omega | decide) only [↓neg1, nlit, rI, rL, rI2, rL1, nI_add, pk_mul, sbT, dvT, nmd, ixT, ↓ibT, ltT, ltF, leT, leF, eqT, eqF, nM_ltT, nM_ltF, nM_leT, nM_leF, nM_eqF, nM_eqF', nbT0, nbT1, oI_s, oI_n, natF, natT, nltT, nltF, nleT, nleF, ↓reduceIte, lgc, not_true_eq_false, not_false_eq_true, or_false, false_or, or_true, true_or, and_true, true_and, and_false, false_and, ne_eq, eq_self, or_self, and_self]) (wpe h235 rfl))
theorem e330t {a b : Nat} (hn : 1000 ≤ n) (hO : OOS c m) (ha : a < 1024) (hT : TLR c m a b) (h : OC c L) : wp (d_330 n (nI (1218 + a)) c) (fun d => OC d (puts L (mkT m b (tdn m b))) ∧ sx qO c d) := by
  obtain ⟨t1, t2, t3, t4, -⟩ := hT
  have ho4 := hO.1
  unfold d_330
  refine wpt (by simp (disch := first | omega | decide) only [↓neg1, nlit, rI, rL, rI2, rL1, nI_add, pk_mul, sbT, dvT, nmd, ixT, ↓ibT, ltT, ltF, leT, leF, eqT, eqF, nM_ltT, nM_ltF, nM_leT, nM_leF, nM_eqF, nM_eqF', nbT0, nbT1, oI_s, oI_n, natF, natT, nltT, nltF, nleT, nleF, ↓reduceIte, lgc, not_true_eq_false, not_false_eq_true, or_false, false_or, or_true, true_or, and_true, true_and, and_false, false_and, ne_eq, eq_self, or_self, and_self]) ?_
  rw [ix_n (by omega)]
  refine wpl ?_
  refine wpc (K' := fun d : cS => OC d (puts L (mkT m b (tdn m b))) ∧ sx qO c d) (whl_cnt (fun k (st : Int32 × Int32 × cS) => st.1 = ch c (1218 + a) k ∧ st.2.1 = nI k ∧ OC st.2.2 (puts L (mkT m b k)) ∧ sx qO c st.2.2) (tdn m b) ?_ ?_ (by omega) ⟨rfl, rfl, h, sx_rfl⟩) (fun d hd => hd)
  · rintro k ⟨p, t0, w⟩ hk ⟨g1, g2, g3, g4⟩
    dsimp only at g1 g2 g3 g4
    obtain ⟨b1, b2, b3, b4, b5, b6, b7, b8, b9, b10, b11, b12, b13⟩ := t4 k hk
    rw [b5] at g1
    subst g1 g2
    dsimp only
    generalize hx : mi c (1218 + a) k = x at *
    have hel := OOS_el hO b1
    have R1 : ∀ (y : cS) A i, sx qO c y → A ≠ 172 → A ≠ 173 → y.1 A i = c.1 A i := fun y A i hy h1 h2 => hy.1 A i (qO_no (by omega))
    have R2 : ∀ (y : cS) A i, sx qO c y → A ≠ 172 → A ≠ 173 → y.2 A i = c.2 A i := fun y A i hy h1 h2 => hy.2 A i (qO_no (by omega))
    refine wpt (by simp (disch := first | omega | decide) only [↓neg1, nlit, rI, rL, rI2, rL1, nI_add, pk_mul, sbT, dvT, nmd, ixT, ↓ibT, ltT, ltF, leT, leF, eqT, eqF, nM_ltT, nM_ltF, nM_leT, nM_leF, nM_eqF, nM_eqF', nbT0, nbT1, oI_s, oI_n, natF, natT, nltT, nltF, nleT, nleF, ↓reduceIte, lgc, not_true_eq_false, not_false_eq_true, or_false, false_or, or_true, true_or, and_true, true_and, and_false, false_and, ne_eq, eq_self, or_self, and_self]) ?_
    rw [R1 w 144 _ g4 (by decide) (by decide), t3]
    refine wpf (by simp (disch := first | omega | decide) only [↓neg1, nlit, rI, rL, rI2, rL1, nI_add, pk_mul, sbT, dvT, nmd, ixT, ↓ibT, ltT, ltF, leT, leF, eqT, eqF, nM_ltT, nM_ltF, nM_leT, nM_leF, nM_eqF, nM_eqF', nbT0, nbT1, oI_s, oI_n, natF, natT, nltT, nltF, nleT, nleF, ↓reduceIte, lgc, not_true_eq_false, not_false_eq_true, or_false, false_or, or_true, true_or, and_true, true_and, and_false, false_and, ne_eq, eq_self, or_self, and_self]) (wpt (by simp (disch := first | omega | decide) only [↓neg1, nlit, rI, rL, rI2, rL1, nI_add, pk_mul, sbT, dvT, nmd, ixT, ↓ibT, ltT, ltF, leT, leF, eqT, eqF, nM_ltT, nM_ltF, nM_leT, nM_leF, nM_eqF, nM_eqF', nbT0, nbT1, oI_s, oI_n, natF, natT, nltT, nltF, nleT, nleF, ↓reduceIte, lgc, not_true_eq_false, not_false_eq_true, or_false, false_or, or_true, true_or, and_true, true_and, and_false, false_and, ne_eq, eq_self, or_self, and_self]) ?_)
    rw [ix_n (by omega), R1 w 137 _ g4 (by decide) (by decide), b10]
    refine wpjQ (fun y : cS => OC y (puts L (mkT m b (k + 1))) ∧ sx qO c y) ?_ ?_
    · rintro y ⟨y1, y2⟩
      refine wpt (by simp (disch := first | omega | decide) only [↓neg1, nlit, rI, rL, rI2, rL1, nI_add, pk_mul, sbT, dvT, nmd, ixT, ↓ibT, ltT, ltF, leT, leF, eqT, eqF, nM_ltT, nM_ltF, nM_leT, nM_leF, nM_eqF, nM_eqF', nbT0, nbT1, oI_s, oI_n, natF, natT, nltT, nltF, nleT, nleF, ↓reduceIte, lgc, not_true_eq_false, not_false_eq_true, or_false, false_or, or_true, true_or, and_true, true_and, and_false, false_and, ne_eq, eq_self, or_self, and_self]) ?_
      rw [R1 y 138 _ y2 (by decide) (by decide)]
      refine wpl (wpl ⟨?_, nI_1 _, y1, y2⟩)
      show c.1 138 x = c.1 138 (ix (ch c (1218 + a) k))
      rw [b5, ix_n (by omega)]
    · intro Q' k' hk'
      have hOw := OOS_CA (CA_sx g4 nC_qO) hO
      have f1 := e227t (n := n) b6 ((R1 w 136 x g4 (by decide) (by decide)).trans b9)
      obtain ⟨e', w1, w2, w3⟩ := e231t (n := n) hn b6 hOw b1 b2 ((R1 w 136 x g4 (by decide) (by decide)).trans b9) ((R2 w 139 _ g4 (by decide) (by decide)).trans b11) ((R1 w 140 _ g4 (by decide) (by decide)).trans b12) ((R2 w 141 _ g4 (by decide) (by decide)).trans b13)
      have h331 : d_331 n (nI x) w = some 1 := by
        unfold d_331
        refine eq_wp (wpe f1 (wpt rfl (wpt (by simp (disch := first | omega | decide) only [↓neg1, nlit, rI, rL, rI2, rL1, nI_add, pk_mul, sbT, dvT, nmd, ixT, ↓ibT, ltT, ltF, leT, leF, eqT, eqF, nM_ltT, nM_ltF, nM_leT, nM_leF, nM_eqF, nM_eqF', nbT0, nbT1, oI_s, oI_n, natF, natT, nltT, nltF, nleT, nleF, ↓reduceIte, lgc, not_true_eq_false, not_false_eq_true, or_false, false_or, or_true, true_or, and_true, true_and, and_false, false_and, ne_eq, eq_self, or_self, and_self]) ?_)))
        rw [ix_n (by omega), R1 w 135 _ g4 (by decide) (by decide), b8]
        refine wpf (by simp (disch := first | omega | decide) only [↓neg1, nlit, rI, rL, rI2, rL1, nI_add, pk_mul, sbT, dvT, nmd, ixT, ↓ibT, ltT, ltF, leT, leF, eqT, eqF, nM_ltT, nM_ltF, nM_leT, nM_leF, nM_eqF, nM_eqF', nbT0, nbT1, oI_s, oI_n, natF, natT, nltT, nltF, nleT, nleF, ↓reduceIte, lgc, not_true_eq_false, not_false_eq_true, or_false, false_or, or_true, true_or, and_true, true_and, and_false, false_and, ne_eq, eq_self, or_self, and_self]) (wpt (by simp (disch := first | omega | decide) only [↓neg1, nlit, rI, rL, rI2, rL1, nI_add, pk_mul, sbT, dvT, nmd, ixT, ↓ibT, ltT, ltF, leT, leF, eqT, eqF, nM_ltT, nM_ltF, nM_leT, nM_leF, nM_eqF, nM_eqF', nbT0, nbT1, oI_s, oI_n, natF, natT, nltT, nltF, nleT, nleF, ↓reduceIte, lgc, not_true_eq_false, not_false_eq_true, or_false, false_or, or_true, true_or, and_true, true_and, and_false, false_and, ne_eq, eq_self, or_self, and_self]) ?_)
        rw [show nI (100 + toR m b k) - 100 = nI (toR m b k) from nI_sb (b := 100)]
        refine wpt (by simp (disch := first | omega | decide) only [↓neg1, nlit, rI, rL, rI2, rL1, nI_add, pk_mul, sbT, dvT, nmd, ixT, ↓ibT, ltT, ltF, leT, leF, eqT, eqF, nM_ltT, nM_ltF, nM_leT, nM_leF, nM_eqF, nM_eqF', nbT0, nbT1, oI_s, oI_n, natF, natT, nltT, nltF, nleT, nleF, ↓reduceIte, lgc, not_true_eq_false, not_false_eq_true, or_false, false_or, or_true, true_or, and_true, true_and, and_false, false_and, ne_eq, eq_self, or_self, and_self]) ?_
        rw [ix_n (by omega)]
        exact wpe w3 (wpj (wpf (by simp (disch := first | omega | decide) only [↓neg1, nlit, rI, rL, rI2, rL1, nI_add, pk_mul, sbT, dvT, nmd, ixT, ↓ibT, ltT, ltF, leT, leF, eqT, eqF, nM_ltT, nM_ltF, nM_leT, nM_leF, nM_eqF, nM_eqF', nbT0, nbT1, oI_s, oI_n, natF, natT, nltT, nltF, nleT, nleF, ↓reduceIte, lgc, not_true_eq_false, not_false_eq_true, or_false, false_or, or_true, true_or, and_true, true_and, and_false, false_and, ne_eq, eq_self, or_self, and_self]) (wpt (by decide) rfl)))
      refine wpf (by decide) (wpe h331 (wpf (by decide) ?_))
      have h332 : wp (d_332 n (nI x) w) (fun d => OC d (puts L (mkT m b (k + 1))) ∧ sx qO c d) := by
        unfold d_332
        refine wpc (e322 (b := 64) (by decide) g3) (fun d1 h1 => ?_)
        have s1 := sx_trans g4 h1.2
        refine wpe (e227t (n := n) b6 ((R1 d1 136 x s1 (by decide) (by decide)).trans b9)) (wpj (wpt rfl (wpt (by simp (disch := first | omega | decide) only [↓neg1, nlit, rI, rL, rI2, rL1, nI_add, pk_mul, sbT, dvT, nmd, ixT, ↓ibT, ltT, ltF, leT, leF, eqT, eqF, nM_ltT, nM_ltF, nM_leT, nM_leF, nM_eqF, nM_eqF', nbT0, nbT1, oI_s, oI_n, natF, natT, nltT, nltF, nleT, nleF, ↓reduceIte, lgc, not_true_eq_false, not_false_eq_true, or_false, false_or, or_true, true_or, and_true, true_and, and_false, false_and, ne_eq, eq_self, or_self, and_self]) ?_)))
        rw [ix_n (by omega), R2 d1 134 _ s1 (by decide) (by decide), b7]
        refine wpc (e320 hn h1.1) (fun d2 h2 => ?_)
        have s2 := sx_trans s1 h2.2
        refine wpe (e227t (n := n) b6 ((R1 d2 136 x s2 (by decide) (by decide)).trans b9)) (wpt rfl (wpt (by simp (disch := first | omega | decide) only [↓neg1, nlit, rI, rL, rI2, rL1, nI_add, pk_mul, sbT, dvT, nmd, ixT, ↓ibT, ltT, ltF, leT, leF, eqT, eqF, nM_ltT, nM_ltF, nM_leT, nM_leF, nM_eqF, nM_eqF', nbT0, nbT1, oI_s, oI_n, natF, natT, nltT, nltF, nleT, nleF, ↓reduceIte, lgc, not_true_eq_false, not_false_eq_true, or_false, false_or, or_true, true_or, and_true, true_and, and_false, false_and, ne_eq, eq_self, or_self, and_self]) ?_))
        rw [R1 d2 135 _ s2 (by decide) (by decide), b8]
        refine wpf (by simp (disch := first | omega | decide) only [↓neg1, nlit, rI, rL, rI2, rL1, nI_add, pk_mul, sbT, dvT, nmd, ixT, ↓ibT, ltT, ltF, leT, leF, eqT, eqF, nM_ltT, nM_ltF, nM_leT, nM_leF, nM_eqF, nM_eqF', nbT0, nbT1, oI_s, oI_n, natF, natT, nltT, nltF, nleT, nleF, ↓reduceIte, lgc, not_true_eq_false, not_false_eq_true, or_false, false_or, or_true, true_or, and_true, true_and, and_false, false_and, ne_eq, eq_self, or_self, and_self]) (wpt (by simp (disch := first | omega | decide) only [↓neg1, nlit, rI, rL, rI2, rL1, nI_add, pk_mul, sbT, dvT, nmd, ixT, ↓ibT, ltT, ltF, leT, leF, eqT, eqF, nM_ltT, nM_ltF, nM_leT, nM_leF, nM_eqF, nM_eqF', nbT0, nbT1, oI_s, oI_n, natF, natT, nltT, nltF, nleT, nleF, ↓reduceIte, lgc, not_true_eq_false, not_false_eq_true, or_false, false_or, or_true, true_or, and_true, true_and, and_false, false_and, ne_eq, eq_self, or_self, and_self]) ?_)
        rw [show nI (100 + toR m b k) - 100 = nI (toR m b k) from nI_sb (b := 100)]
        refine wpt (by simp (disch := first | omega | decide) only [↓neg1, nlit, rI, rL, rI2, rL1, nI_add, pk_mul, sbT, dvT, nmd, ixT, ↓ibT, ltT, ltF, leT, leF, eqT, eqF, nM_ltT, nM_ltF, nM_leT, nM_leF, nM_eqF, nM_eqF', nbT0, nbT1, oI_s, oI_n, natF, natT, nltT, nltF, nleT, nleF, ↓reduceIte, lgc, not_true_eq_false, not_false_eq_true, or_false, false_or, or_true, true_or, and_true, true_and, and_false, false_and, ne_eq, eq_self, or_self, and_self]) ?_
        rw [ix_n (by omega)]
        refine wpc (e322 (b := 46) (by decide) h2.1) (fun d3 h3 => ?_)
        have s3 := sx_trans s2 h3.2
        have hO3 := OOS_CA (CA_sx s3 nC_qO) hO
        obtain ⟨e'', w1, w2, w3⟩ := e231t (n := n) hn b6 hO3 b1 b2 ((R1 d3 136 x s3 (by decide) (by decide)).trans b9) ((R2 d3 139 _ s3 (by decide) (by decide)).trans b11) ((R1 d3 140 _ s3 (by decide) (by decide)).trans b12) ((R2 d3 141 _ s3 (by decide) (by decide)).trans b13)
        refine wpe w3 (wpt (by simp (disch := first | omega | decide) only [↓neg1, nlit, rI, rL, rI2, rL1, nI_add, pk_mul, sbT, dvT, nmd, ixT, ↓ibT, ltT, ltF, leT, leF, eqT, eqF, nM_ltT, nM_ltF, nM_leT, nM_leF, nM_eqF, nM_eqF', nbT0, nbT1, oI_s, oI_n, natF, natT, nltT, nltF, nleT, nleF, ↓reduceIte, lgc, not_true_eq_false, not_false_eq_true, or_false, false_or, or_true, true_or, and_true, true_and, and_false, false_and, ne_eq, eq_self, or_self, and_self]) ?_)
        rw [ix_n (by omega), (OOS_at hO3 b1).2.2.2.1 e'' w1, w2]
        refine wpc (e320 hn h3.1) (fun d4 h4 => ⟨?_, sx_trans s3 h4.2⟩)
        show OC d4 (puts L (mkT m b k ++ [[64], sg (m.2 181 (toR m b k)), [46], sg (m.2 183 (12 * toR m b k + teR m b k))]))
        rw [puts_app]
        exact h4.1
      exact wpc h332 (fun d hd => hk' d hd)
  · rintro ⟨p, t0, w⟩ ⟨g1, g2, g3, g4⟩
    dsimp only at g1 g2 g3 g4
    subst g2
    dsimp only
    refine wpt (by simp (disch := first | omega | decide) only [↓neg1, nlit, rI, rL, rI2, rL1, nI_add, pk_mul, sbT, dvT, nmd, ixT, ↓ibT, ltT, ltF, leT, leF, eqT, eqF, nM_ltT, nM_ltF, nM_leT, nM_leF, nM_eqF, nM_eqF', nbT0, nbT1, oI_s, oI_n, natF, natT, nltT, nltF, nleT, nleF, ↓reduceIte, lgc, not_true_eq_false, not_false_eq_true, or_false, false_or, or_true, true_or, and_true, true_and, and_false, false_and, ne_eq, eq_self, or_self, and_self]) ?_
    rw [g4.1 144 _ (qO_no (by omega)), t3]
    exact wpt (by simp (disch := first | omega | decide) only [↓neg1, nlit, rI, rL, rI2, rL1, nI_add, pk_mul, sbT, dvT, nmd, ixT, ↓ibT, ltT, ltF, leT, leF, eqT, eqF, nM_ltT, nM_ltF, nM_leT, nM_leF, nM_eqF, nM_eqF', nbT0, nbT1, oI_s, oI_n, natF, natT, nltT, nltF, nleT, nleF, ↓reduceIte, lgc, not_true_eq_false, not_false_eq_true, or_false, false_or, or_true, true_or, and_true, true_and, and_false, false_and, ne_eq, eq_self, or_self, and_self]) ⟨g3, g4⟩
end W
/-- an ACT in TOKENS: with numbers for LABELS, or with names -/
def lbW (m : cS) (M l : Nat) (t : Option Nat) : List Nat := match t with
  | some k => dgk k (nd k)
  | none => sg (m.2 212 (40 * M + l))
def lbK (m : cS) (M b : Nat) (t : Option Nat) : List (List Nat) := if isL m b = true then [lbW m M (lbT m b) t] else []
def preT (m : cS) (b : Nat) (t : Option Nat) : List (List Nat) := if t = none ∧ m.2 212 b ≠ 0 then [sg (m.2 212 b), [58]] else []
theorem e333 {n M i : Nat} {t : Option Nat} {c m : cS} {L : List Nat} (hn : 1000 ≤ n) (hW : WT c) (hG : PG c m) (hM : isMt m M) (hi : i < acn m M) (ht : ∀ k, t = some k → k < 10 ^ 9) (h : OC c L) : wp (d_333 n (nI M) (nI (fa c M + i)) (oI t) c) (fun d => OC d (puts L (preT m (40 * M + i) t ++ ([wb (2 + opn m (40 * M + i))] ++ opT m M (40 * M + i) ++ lbK m M (40 * M + i) t ++ [[59]]))) ∧ sx qO c d) := by
  have hMT := hG.2.2
  have hO := hG.1.1
  have hC := hG.1.2.2.1
  have hac := MTS_ac hMT hM hi
  have hmt := (hMT.2.1 M hM).1
  have hM96 := isMt_lt hC hM
  have ha4 : fa c M + i < 1024 := by
    have := hmt.2.2.2.2.2.2.2.2
    omega
  obtain ⟨hop, m211, c121, c127, c124, -, hR, -⟩ := hac
  have hn40 := hmt.1.2
  have hl8 := hmt.2.2.2.1.1
  have h118 := hmt.2.2.2.2.2.2.1
  generalize hb : 40 * M + i = b at *
  generalize hA : fa c M + i = a at *
  have R1 : ∀ {y : cS}, sx qO c y → ∀ A i, A ≠ 172 → A ≠ 173 → y.1 A i = c.1 A i := fun hy A i h1 h2 => hy.1 A i (qO_no (by omega))
  have R2 : ∀ {y : cS}, sx qO c y → ∀ A i, A ≠ 172 → A ≠ 173 → y.2 A i = c.2 A i := fun hy A i h1 h2 => hy.2 A i (qO_no (by omega))
  rw [puts_app, puts_app, puts_app, puts_app, puts_1, puts_1]
  unfold d_333
  refine wpjQ (fun y : cS => OC y (puts L (preT m b t)) ∧ sx qO c y) ?_ ?_
  · rintro y ⟨h1, h2⟩
    generalize puts L (preT m b t) = L1 at *
    refine wpt (by simp (disch := first | omega | decide) only [↓neg1, nlit, rI, rL, rI2, rL1, nI_add, pk_mul, sbT, dvT, nmd, ixT, ↓ibT, ltT, ltF, leT, leF, eqT, eqF, nM_ltT, nM_ltF, nM_leT, nM_leF, nM_eqF, nM_eqF', nbT0, nbT1, oI_s, oI_n, natF, natT, nltT, nltF, nleT, nleF, ↓reduceIte, lgc, not_true_eq_false, not_false_eq_true, or_false, false_or, or_true, true_or, and_true, true_and, and_false, false_and, ne_eq, eq_self, or_self, and_self]) ?_
    rw [ix_n (by omega), R1 h2 121 a (by decide) (by decide), c121]
    refine wpc (e321 hn (WT_sx hW h2 (fun i => qO_no (by omega))) (by omega) h1) (fun r hr => ?_)
    have s3 := sx_trans h2 hr.2
    have hL2 : put L1 (wb (2 + opn m b)) ≠ [] := put_ne (Or.inr (wb_ne (by omega) (by omega)))
    have hOC := hr.1
    generalize put L1 (wb (2 + opn m b)) = L2 at *
    refine wpt (by simp (disch := first | omega | decide) only [↓neg1, nlit, rI, rL, rI2, rL1, nI_add, pk_mul, sbT, dvT, nmd, ixT, ↓ibT, ltT, ltF, leT, leF, eqT, eqF, nM_ltT, nM_ltF, nM_leT, nM_leF, nM_eqF, nM_eqF', nbT0, nbT1, oI_s, oI_n, natF, natT, nltT, nltF, nleT, nleF, ↓reduceIte, lgc, not_true_eq_false, not_false_eq_true, or_false, false_or, or_true, true_or, and_true, true_and, and_false, false_and, ne_eq, eq_self, or_self, and_self]) ?_
    refine wpjQ (fun z : cS => OC z (puts L2 (opT m M b)) ∧ sx qO c z) ?_ ?_
    · rintro z ⟨z1, z2⟩
      have hL3 := puts_ne hL2 (opT m M b)
      generalize puts L2 (opT m M b) = L3 at *
      refine wpt (by simp (disch := first | omega | decide) only [↓neg1, nlit, rI, rL, rI2, rL1, nI_add, pk_mul, sbT, dvT, nmd, ixT, ↓ibT, ltT, ltF, leT, leF, eqT, eqF, nM_ltT, nM_ltF, nM_leT, nM_leF, nM_eqF, nM_eqF', nbT0, nbT1, oI_s, oI_n, natF, natT, nltT, nltF, nleT, nleF, ↓reduceIte, lgc, not_true_eq_false, not_false_eq_true, or_false, false_or, or_true, true_or, and_true, true_and, and_false, false_and, ne_eq, eq_self, or_self, and_self]) ?_
      refine wpjQ (fun w : cS => OC w (puts L3 (lbK m M b t)) ∧ sx qO c w) (fun w hw => wpc (e322 (b := 59) (by decide) hw.1) (fun d hd => ⟨hd.1, sx_trans hw.2 hd.2⟩)) ?_
      intro Q' k' hk'
      rw [R1 z2 124 a (by decide) (by decide), c124]
      refine wpj ?_
      by_cases hl : opn m b = 27 ∨ opn m b = 28 ∨ opn m b = 29
      · obtain ⟨t', l1, l2, l3⟩ := hR.2.2.2.2.2.2.1 hl
        have hlb : lbT m b = t' := by
          unfold lbT
          rw [l2, ix_n (by omega)]
        have hK : lbK m M b t = [lbW m M t' t] := by
          unfold lbK
          rw [if_pos (show isL m b = true from decide_eq_true hl), hlb]
        rw [hK] at hk'
        rw [l2]
        refine wpf (by simp (disch := first | omega | decide) only [↓neg1, nlit, rI, rL, rI2, rL1, nI_add, pk_mul, sbT, dvT, nmd, ixT, ↓ibT, ltT, ltF, leT, leF, eqT, eqF, nM_ltT, nM_ltF, nM_leT, nM_leF, nM_eqF, nM_eqF', nbT0, nbT1, oI_s, oI_n, natF, natT, nltT, nltF, nleT, nleF, ↓reduceIte, lgc, not_true_eq_false, not_false_eq_true, or_false, false_or, or_true, true_or, and_true, true_and, and_false, false_and, ne_eq, eq_self, or_self, and_self]) ?_
        cases t with
        | some k =>
          have hk9 := ht k rfl
          refine wpt (nI_pos' (by omega)) (wpt (by simp (disch := first | omega | decide) only [↓neg1, nlit, rI, rL, rI2, rL1, nI_add, pk_mul, sbT, dvT, nmd, ixT, ↓ibT, ltT, ltF, leT, leF, eqT, eqF, nM_ltT, nM_ltF, nM_leT, nM_leF, nM_eqF, nM_eqF', nbT0, nbT1, oI_s, oI_n, natF, natT, nltT, nltF, nleT, nleF, ↓reduceIte, lgc, not_true_eq_false, not_false_eq_true, or_false, false_or, or_true, true_or, and_true, true_and, and_false, false_and, ne_eq, eq_self, or_self, and_self]) (wpf (by simp (disch := first | omega | decide) only [↓neg1, nlit, rI, rL, rI2, rL1, nI_add, pk_mul, sbT, dvT, nmd, ixT, ↓ibT, ltT, ltF, leT, leF, eqT, eqF, nM_ltT, nM_ltF, nM_leT, nM_leF, nM_eqF, nM_eqF', nbT0, nbT1, oI_s, oI_n, natF, natT, nltT, nltF, nleT, nleF, ↓reduceIte, lgc, not_true_eq_false, not_false_eq_true, or_false, false_or, or_true, true_or, and_true, true_and, and_false, false_and, ne_eq, eq_self, or_self, and_self]) ?_))
          have hx0 : 0 ≤ nI k := nI_pos' (by omega)
          have hxn : natN (nI k) = k := by
            unfold natN
            rw [nI_toInt (by omega)]
            omega
          refine wpc (e323i (x := nI k) hn hL3 z1) (fun d hd => hk' d ⟨?_, sx_trans z2 hd.2⟩)
          have := hd.1
          unfold nt at this
          rw [if_pos hx0, hxn] at this
          exact this
        | none =>
          refine wpf (by decide) (wpt (by simp (disch := first | omega | decide) only [↓neg1, nlit, rI, rL, rI2, rL1, nI_add, pk_mul, sbT, dvT, nmd, ixT, ↓ibT, ltT, ltF, leT, leF, eqT, eqF, nM_ltT, nM_ltF, nM_leT, nM_leF, nM_eqF, nM_eqF', nbT0, nbT1, oI_s, oI_n, natF, natT, nltT, nltF, nleT, nleF, ↓reduceIte, lgc, not_true_eq_false, not_false_eq_true, or_false, false_or, or_true, true_or, and_true, true_and, and_false, false_and, ne_eq, eq_self, or_self, and_self]) ?_)
          rw [R2 z2 128 a (by decide) (by decide), l3]
          exact wpc (e320 hn z1) (fun d hd => hk' d ⟨hd.1, sx_trans z2 hd.2⟩)
      · have l2 := hR.2.2.2.2.2.2.2 ⟨fun z => hl (Or.inl z), fun z => hl (Or.inr (Or.inl z)), fun z => hl (Or.inr (Or.inr z))⟩
        have hK : lbK m M b t = [] := by
          unfold lbK
          rw [if_neg (show ¬ isL m b = true from fun z => hl (of_decide_eq_true z))]
        rw [hK] at hk'
        rw [l2]
        exact wpt (by decide) (wpt (by simp (disch := first | omega | decide) only [↓neg1, nlit, rI, rL, rI2, rL1, nI_add, pk_mul, sbT, dvT, nmd, ixT, ↓ibT, ltT, ltF, leT, leF, eqT, eqF, nM_ltT, nM_ltF, nM_leT, nM_leF, nM_eqF, nM_eqF', nbT0, nbT1, oI_s, oI_n, natF, natT, nltT, nltF, nleT, nleF, ↓reduceIte, lgc, not_true_eq_false, not_false_eq_true, or_false, false_or, or_true, true_or, and_true, true_and, and_false, false_and, ne_eq, eq_self, or_self, and_self]) (wpt (by decide) (hk' z ⟨z1, z2⟩)))
    · intro Q' k' hk'
      have h121 : r.1 121 a = nI (200 + opn m b) := (R1 s3 121 a (by decide) (by decide)).trans c121
      have hOr := OOS_CA (CA_sx s3 nC_qO) hO
      have hmk : opn m b ≤ 15 → ∀ (y : cS) (L4 : List Nat), OC y L4 → sx qO c y → wp (d_330 n (nI (1218 + a)) y) (fun d => OC d (puts L4 (mkT m b (tdn m b))) ∧ sx qO c d) := by
        intro h15 y L4 y1 y2
        have hGy := PG_CA (CA_sx y2 nC_qO) hG
        have hacy := MTS_ac hGy.2.2 hM hi
        have hRy := hacy.2.2.2.2.2.2.1
        rw [FC_fa y2 nC_qO, hA, hb] at hRy
        exact wp_mono (e330t hn hGy.1.1 ha4 (hRy.2.1 h15) y1) (fun d hd => ⟨hd.1, sx_trans y2 hd.2⟩)
      have h1218 : (1218 : Int32) + nI a = nI (1218 + a) := nI_add 1218 a
      rw [h121]
      refine wpj (wpj (wpj ?_))
      rcases op17 hop with e | e | e | e | e | e | e | e | e | e | e | e | e | e | e | e | e
      · have hT : opT m M b = nt (m.1 214 b) ++ mkT m b (tdn m b) := by
          unfold opT
          rw [if_pos e]
        rw [hT, puts_app] at hk'
        (try dsimp only); repeat (first | with_reducible refine wpl ?_ | with_reducible refine wpj ?_ | with_reducible refine wpSl ?_ | with_reducible refine wpSr ?_ | with_reducible refine wpS ?_ | ((with_reducible refine wpt ?_ ?_); · simp (disch := first | omega | decide) only [↓neg1, nlit, rI, rL, rI2, rL1, nI_add, pk_mul, sbT, dvT, nmd, ixT, ↓ibT, ltT, ltF, leT, leF, eqT, eqF, nM_ltT, nM_ltF, nM_leT, nM_leF, nM_eqF, nM_eqF', nbT0, nbT1, oI_s, oI_n, natF, natT, nltT, nltF, nleT, nleF, ↓reduceIte, lgc, not_true_eq_false, not_false_eq_true, or_false, false_or, or_true, true_or, and_true, true_and, and_false, false_and, ne_eq, eq_self, or_self, and_self]; done) | ((with_reducible refine wpf ?_ ?_); · simp (disch := first | omega | decide) only [↓neg1, nlit, rI, rL, rI2, rL1, nI_add, pk_mul, sbT, dvT, nmd, ixT, ↓ibT, ltT, ltF, leT, leF, eqT, eqF, nM_ltT, nM_ltF, nM_leT, nM_leF, nM_eqF, nM_eqF', nbT0, nbT1, oI_s, oI_n, natF, natT, nltT, nltF, nleT, nleF, ↓reduceIte, lgc, not_true_eq_false, not_false_eq_true, or_false, false_or, or_true, true_or, and_true, true_and, and_false, false_and, ne_eq, eq_self, or_self, and_self]; done))
        rw [R1 s3 122 a (by decide) (by decide), hR.1 e, h1218]
        refine wpc (e323i hn hL2 hOC) (fun d hd => wpc (hmk (by omega) d _ hd.1 (sx_trans s3 hd.2)) (fun d2 hd2 => hk' d2 hd2))
      · have hT : opT m M b = mkT m b (tdn m b) := by
          unfold opT
          rw [if_neg (by omega), if_pos e]
        rw [hT] at hk'
        (try dsimp only); repeat (first | with_reducible refine wpl ?_ | with_reducible refine wpj ?_ | with_reducible refine wpSl ?_ | with_reducible refine wpSr ?_ | with_reducible refine wpS ?_ | ((with_reducible refine wpt ?_ ?_); · simp (disch := first | omega | decide) only [↓neg1, nlit, rI, rL, rI2, rL1, nI_add, pk_mul, sbT, dvT, nmd, ixT, ↓ibT, ltT, ltF, leT, leF, eqT, eqF, nM_ltT, nM_ltF, nM_leT, nM_leF, nM_eqF, nM_eqF', nbT0, nbT1, oI_s, oI_n, natF, natT, nltT, nltF, nleT, nleF, ↓reduceIte, lgc, not_true_eq_false, not_false_eq_true, or_false, false_or, or_true, true_or, and_true, true_and, and_false, false_and, ne_eq, eq_self, or_self, and_self]; done) | ((with_reducible refine wpf ?_ ?_); · simp (disch := first | omega | decide) only [↓neg1, nlit, rI, rL, rI2, rL1, nI_add, pk_mul, sbT, dvT, nmd, ixT, ↓ibT, ltT, ltF, leT, leF, eqT, eqF, nM_ltT, nM_ltF, nM_leT, nM_leF, nM_eqF, nM_eqF', nbT0, nbT1, oI_s, oI_n, natF, natT, nltT, nltF, nleT, nleF, ↓reduceIte, lgc, not_true_eq_false, not_false_eq_true, or_false, false_or, or_true, true_or, and_true, true_and, and_false, false_and, ne_eq, eq_self, or_self, and_self]; done))
        rw [h1218]
        exact wpc (hmk (by omega) r _ hOC s3) (fun d2 hd2 => hk' d2 hd2)
      · have hT : opT m M b = [sg (m.2 209 (8 * M + xN m b))] := by
          unfold opT
          rw [if_neg (by omega), if_neg (by omega), if_pos (by omega)]
        rw [hT] at hk'
        have hx := hR.2.2.1 (by omega)
        (try dsimp only); repeat (first | with_reducible refine wpl ?_ | with_reducible refine wpj ?_ | with_reducible refine wpSl ?_ | with_reducible refine wpSr ?_ | with_reducible refine wpS ?_ | ((with_reducible refine wpt ?_ ?_); · simp (disch := first | omega | decide) only [↓neg1, nlit, rI, rL, rI2, rL1, nI_add, pk_mul, sbT, dvT, nmd, ixT, ↓ibT, ltT, ltF, leT, leF, eqT, eqF, nM_ltT, nM_ltF, nM_leT, nM_leF, nM_eqF, nM_eqF', nbT0, nbT1, oI_s, oI_n, natF, natT, nltT, nltF, nleT, nleF, ↓reduceIte, lgc, not_true_eq_false, not_false_eq_true, or_false, false_or, or_true, true_or, and_true, true_and, and_false, false_and, ne_eq, eq_self, or_self, and_self]; done) | ((with_reducible refine wpf ?_ ?_); · simp (disch := first | omega | decide) only [↓neg1, nlit, rI, rL, rI2, rL1, nI_add, pk_mul, sbT, dvT, nmd, ixT, ↓ibT, ltT, ltF, leT, leF, eqT, eqF, nM_ltT, nM_ltF, nM_leT, nM_leF, nM_eqF, nM_eqF', nbT0, nbT1, oI_s, oI_n, natF, natT, nltT, nltF, nleT, nleF, ↓reduceIte, lgc, not_true_eq_false, not_false_eq_true, or_false, false_or, or_true, true_or, and_true, true_and, and_false, false_and, ne_eq, eq_self, or_self, and_self]; done))
        rw [R1 s3 122 a (by decide) (by decide), hx.2.2, show nI M * 8 + nI (xN m b) = nI (M * 8 + xN m b) by rw [show (8 : Int32) = nI 8 from rfl, pk_mul, nI_add]]
        refine wpt (by simp (disch := first | omega | decide) only [↓neg1, nlit, rI, rL, rI2, rL1, nI_add, pk_mul, sbT, dvT, nmd, ixT, ↓ibT, ltT, ltF, leT, leF, eqT, eqF, nM_ltT, nM_ltF, nM_leT, nM_leF, nM_eqF, nM_eqF', nbT0, nbT1, oI_s, oI_n, natF, natT, nltT, nltF, nleT, nleF, ↓reduceIte, lgc, not_true_eq_false, not_false_eq_true, or_false, false_or, or_true, true_or, and_true, true_and, and_false, false_and, ne_eq, eq_self, or_self, and_self]) ?_
        rw [ix_n (by omega), R2 s3 118 _ (by decide) (by decide), h118 _ hx.1]
        exact wpc (e320 hn hOC) (fun d hd => hk' d ⟨hd.1, sx_trans s3 hd.2⟩)
      · have hT : opT m M b = [sg (m.2 209 (8 * M + xN m b))] := by
          unfold opT
          rw [if_neg (by omega), if_neg (by omega), if_pos (by omega)]
        rw [hT] at hk'
        have hx := hR.2.2.1 (by omega)
        (try dsimp only); repeat (first | with_reducible refine wpl ?_ | with_reducible refine wpj ?_ | with_reducible refine wpSl ?_ | with_reducible refine wpSr ?_ | with_reducible refine wpS ?_ | ((with_reducible refine wpt ?_ ?_); · simp (disch := first | omega | decide) only [↓neg1, nlit, rI, rL, rI2, rL1, nI_add, pk_mul, sbT, dvT, nmd, ixT, ↓ibT, ltT, ltF, leT, leF, eqT, eqF, nM_ltT, nM_ltF, nM_leT, nM_leF, nM_eqF, nM_eqF', nbT0, nbT1, oI_s, oI_n, natF, natT, nltT, nltF, nleT, nleF, ↓reduceIte, lgc, not_true_eq_false, not_false_eq_true, or_false, false_or, or_true, true_or, and_true, true_and, and_false, false_and, ne_eq, eq_self, or_self, and_self]; done) | ((with_reducible refine wpf ?_ ?_); · simp (disch := first | omega | decide) only [↓neg1, nlit, rI, rL, rI2, rL1, nI_add, pk_mul, sbT, dvT, nmd, ixT, ↓ibT, ltT, ltF, leT, leF, eqT, eqF, nM_ltT, nM_ltF, nM_leT, nM_leF, nM_eqF, nM_eqF', nbT0, nbT1, oI_s, oI_n, natF, natT, nltT, nltF, nleT, nleF, ↓reduceIte, lgc, not_true_eq_false, not_false_eq_true, or_false, false_or, or_true, true_or, and_true, true_and, and_false, false_and, ne_eq, eq_self, or_self, and_self]; done))
        rw [R1 s3 122 a (by decide) (by decide), hx.2.2, show nI M * 8 + nI (xN m b) = nI (M * 8 + xN m b) by rw [show (8 : Int32) = nI 8 from rfl, pk_mul, nI_add]]
        refine wpt (by simp (disch := first | omega | decide) only [↓neg1, nlit, rI, rL, rI2, rL1, nI_add, pk_mul, sbT, dvT, nmd, ixT, ↓ibT, ltT, ltF, leT, leF, eqT, eqF, nM_ltT, nM_ltF, nM_leT, nM_leF, nM_eqF, nM_eqF', nbT0, nbT1, oI_s, oI_n, natF, natT, nltT, nltF, nleT, nleF, ↓reduceIte, lgc, not_true_eq_false, not_false_eq_true, or_false, false_or, or_true, true_or, and_true, true_and, and_false, false_and, ne_eq, eq_self, or_self, and_self]) ?_
        rw [ix_n (by omega), R2 s3 118 _ (by decide) (by decide), h118 _ hx.1]
        exact wpc (e320 hn hOC) (fun d hd => hk' d ⟨hd.1, sx_trans s3 hd.2⟩)
      · have hT : opT m M b = [sg (m.2 200 (ix (m.1 229 b))), [46], sg (m.2 204 (8 * xN m b + yN m b))] := by
          unfold opT
          rw [if_neg (by omega), if_neg (by omega), if_neg (by omega), if_pos (by omega)]
        rw [hT] at hk'
        have hx := hR.2.2.2.1 (by omega)
        obtain ⟨dd, d1, d2, d3⟩ := hx.2.2.2.2.2.1
        have hcc := (CCS_p hC).1
        rw [d2, ix_n (by omega)] at hk'
        (try dsimp only); repeat (first | with_reducible refine wpl ?_ | with_reducible refine wpj ?_ | with_reducible refine wpSl ?_ | with_reducible refine wpSr ?_ | with_reducible refine wpS ?_ | ((with_reducible refine wpt ?_ ?_); · simp (disch := first | omega | decide) only [↓neg1, nlit, rI, rL, rI2, rL1, nI_add, pk_mul, sbT, dvT, nmd, ixT, ↓ibT, ltT, ltF, leT, leF, eqT, eqF, nM_ltT, nM_ltF, nM_leT, nM_leF, nM_eqF, nM_eqF', nbT0, nbT1, oI_s, oI_n, natF, natT, nltT, nltF, nleT, nleF, ↓reduceIte, lgc, not_true_eq_false, not_false_eq_true, or_false, false_or, or_true, true_or, and_true, true_and, and_false, false_and, ne_eq, eq_self, or_self, and_self]; done) | ((with_reducible refine wpf ?_ ?_); · simp (disch := first | omega | decide) only [↓neg1, nlit, rI, rL, rI2, rL1, nI_add, pk_mul, sbT, dvT, nmd, ixT, ↓ibT, ltT, ltF, leT, leF, eqT, eqF, nM_ltT, nM_ltF, nM_leT, nM_leF, nM_eqF, nM_eqF', nbT0, nbT1, oI_s, oI_n, natF, natT, nltT, nltF, nleT, nleF, ↓reduceIte, lgc, not_true_eq_false, not_false_eq_true, or_false, false_or, or_true, true_or, and_true, true_and, and_false, false_and, ne_eq, eq_self, or_self, and_self]; done))
        rw [R2 s3 128 a (by decide) (by decide), d3]
        refine wpc (e320 hn hOC) (fun y1 g1 => wpc (e322 (b := 46) (by decide) g1.1) (fun y2 g2 => wpt (by simp (disch := first | omega | decide) only [↓neg1, nlit, rI, rL, rI2, rL1, nI_add, pk_mul, sbT, dvT, nmd, ixT, ↓ibT, ltT, ltF, leT, leF, eqT, eqF, nM_ltT, nM_ltF, nM_leT, nM_leF, nM_eqF, nM_eqF', nbT0, nbT1, oI_s, oI_n, natF, natT, nltT, nltF, nleT, nleF, ↓reduceIte, lgc, not_true_eq_false, not_false_eq_true, or_false, false_or, or_true, true_or, and_true, true_and, and_false, false_and, ne_eq, eq_self, or_self, and_self]) ?_))
        have s5 := sx_trans s3 (sx_trans g1.2 g2.2)
        rw [R2 s5 129 a (by decide) (by decide), hx.2.2.2.2.2.2]
        exact wpc (e320 hn g2.1) (fun d hd => hk' d ⟨hd.1, sx_trans s5 hd.2⟩)
      · have hT : opT m M b = [sg (m.2 200 (ix (m.1 229 b))), [46], sg (m.2 204 (8 * xN m b + yN m b))] := by
          unfold opT
          rw [if_neg (by omega), if_neg (by omega), if_neg (by omega), if_pos (by omega)]
        rw [hT] at hk'
        have hx := hR.2.2.2.1 (by omega)
        obtain ⟨dd, d1, d2, d3⟩ := hx.2.2.2.2.2.1
        have hcc := (CCS_p hC).1
        rw [d2, ix_n (by omega)] at hk'
        (try dsimp only); repeat (first | with_reducible refine wpl ?_ | with_reducible refine wpj ?_ | with_reducible refine wpSl ?_ | with_reducible refine wpSr ?_ | with_reducible refine wpS ?_ | ((with_reducible refine wpt ?_ ?_); · simp (disch := first | omega | decide) only [↓neg1, nlit, rI, rL, rI2, rL1, nI_add, pk_mul, sbT, dvT, nmd, ixT, ↓ibT, ltT, ltF, leT, leF, eqT, eqF, nM_ltT, nM_ltF, nM_leT, nM_leF, nM_eqF, nM_eqF', nbT0, nbT1, oI_s, oI_n, natF, natT, nltT, nltF, nleT, nleF, ↓reduceIte, lgc, not_true_eq_false, not_false_eq_true, or_false, false_or, or_true, true_or, and_true, true_and, and_false, false_and, ne_eq, eq_self, or_self, and_self]; done) | ((with_reducible refine wpf ?_ ?_); · simp (disch := first | omega | decide) only [↓neg1, nlit, rI, rL, rI2, rL1, nI_add, pk_mul, sbT, dvT, nmd, ixT, ↓ibT, ltT, ltF, leT, leF, eqT, eqF, nM_ltT, nM_ltF, nM_leT, nM_leF, nM_eqF, nM_eqF', nbT0, nbT1, oI_s, oI_n, natF, natT, nltT, nltF, nleT, nleF, ↓reduceIte, lgc, not_true_eq_false, not_false_eq_true, or_false, false_or, or_true, true_or, and_true, true_and, and_false, false_and, ne_eq, eq_self, or_self, and_self]; done))
        rw [R2 s3 128 a (by decide) (by decide), d3]
        refine wpc (e320 hn hOC) (fun y1 g1 => wpc (e322 (b := 46) (by decide) g1.1) (fun y2 g2 => wpt (by simp (disch := first | omega | decide) only [↓neg1, nlit, rI, rL, rI2, rL1, nI_add, pk_mul, sbT, dvT, nmd, ixT, ↓ibT, ltT, ltF, leT, leF, eqT, eqF, nM_ltT, nM_ltF, nM_leT, nM_leF, nM_eqF, nM_eqF', nbT0, nbT1, oI_s, oI_n, natF, natT, nltT, nltF, nleT, nleF, ↓reduceIte, lgc, not_true_eq_false, not_false_eq_true, or_false, false_or, or_true, true_or, and_true, true_and, and_false, false_and, ne_eq, eq_self, or_self, and_self]) ?_))
        have s5 := sx_trans s3 (sx_trans g1.2 g2.2)
        rw [R2 s5 129 a (by decide) (by decide), hx.2.2.2.2.2.2]
        exact wpc (e320 hn g2.1) (fun d hd => hk' d ⟨hd.1, sx_trans s5 hd.2⟩)
      · have hT : opT m M b = [sg (m.2 200 (ix (m.1 229 b))), [46], sg (m.2 206 (8 * xN m b + yN m b))] := by
          unfold opT
          rw [if_neg (by omega), if_neg (by omega), if_neg (by omega), if_neg (by omega), if_pos (by omega)]
        rw [hT] at hk'
        have hx := hR.2.2.2.2.1 e
        obtain ⟨dd, d1, d2, d3⟩ := hx.2.2.2.2.2.2.1
        have hcc := (CCS_p hC).1
        rw [d2, ix_n (by omega)] at hk'
        (try dsimp only); repeat (first | with_reducible refine wpl ?_ | with_reducible refine wpj ?_ | with_reducible refine wpSl ?_ | with_reducible refine wpSr ?_ | with_reducible refine wpS ?_ | ((with_reducible refine wpt ?_ ?_); · simp (disch := first | omega | decide) only [↓neg1, nlit, rI, rL, rI2, rL1, nI_add, pk_mul, sbT, dvT, nmd, ixT, ↓ibT, ltT, ltF, leT, leF, eqT, eqF, nM_ltT, nM_ltF, nM_leT, nM_leF, nM_eqF, nM_eqF', nbT0, nbT1, oI_s, oI_n, natF, natT, nltT, nltF, nleT, nleF, ↓reduceIte, lgc, not_true_eq_false, not_false_eq_true, or_false, false_or, or_true, true_or, and_true, true_and, and_false, false_and, ne_eq, eq_self, or_self, and_self]; done) | ((with_reducible refine wpf ?_ ?_); · simp (disch := first | omega | decide) only [↓neg1, nlit, rI, rL, rI2, rL1, nI_add, pk_mul, sbT, dvT, nmd, ixT, ↓ibT, ltT, ltF, leT, leF, eqT, eqF, nM_ltT, nM_ltF, nM_leT, nM_leF, nM_eqF, nM_eqF', nbT0, nbT1, oI_s, oI_n, natF, natT, nltT, nltF, nleT, nleF, ↓reduceIte, lgc, not_true_eq_false, not_false_eq_true, or_false, false_or, or_true, true_or, and_true, true_and, and_false, false_and, ne_eq, eq_self, or_self, and_self]; done))
        rw [R2 s3 128 a (by decide) (by decide), d3]
        refine wpc (e320 hn hOC) (fun y1 g1 => wpc (e322 (b := 46) (by decide) g1.1) (fun y2 g2 => wpt (by simp (disch := first | omega | decide) only [↓neg1, nlit, rI, rL, rI2, rL1, nI_add, pk_mul, sbT, dvT, nmd, ixT, ↓ibT, ltT, ltF, leT, leF, eqT, eqF, nM_ltT, nM_ltF, nM_leT, nM_leF, nM_eqF, nM_eqF', nbT0, nbT1, oI_s, oI_n, natF, natT, nltT, nltF, nleT, nleF, ↓reduceIte, lgc, not_true_eq_false, not_false_eq_true, or_false, false_or, or_true, true_or, and_true, true_and, and_false, false_and, ne_eq, eq_self, or_self, and_self]) ?_))
        have s5 := sx_trans s3 (sx_trans g1.2 g2.2)
        rw [R2 s5 129 a (by decide) (by decide), hx.2.2.2.2.2.2.2]
        exact wpc (e320 hn g2.1) (fun d hd => hk' d ⟨hd.1, sx_trans s5 hd.2⟩)
      · have hT : opT m M b = [] := by
          unfold opT
          rw [if_neg (by omega), if_neg (by omega), if_neg (by omega), if_neg (by omega), if_neg (by omega), if_neg (by omega)]
        rw [hT] at hk'
        (try dsimp only); repeat (first | with_reducible refine wpl ?_ | with_reducible refine wpj ?_ | with_reducible refine wpSl ?_ | with_reducible refine wpSr ?_ | with_reducible refine wpS ?_ | ((with_reducible refine wpt ?_ ?_); · simp (disch := first | omega | decide) only [↓neg1, nlit, rI, rL, rI2, rL1, nI_add, pk_mul, sbT, dvT, nmd, ixT, ↓ibT, ltT, ltF, leT, leF, eqT, eqF, nM_ltT, nM_ltF, nM_leT, nM_leF, nM_eqF, nM_eqF', nbT0, nbT1, oI_s, oI_n, natF, natT, nltT, nltF, nleT, nleF, ↓reduceIte, lgc, not_true_eq_false, not_false_eq_true, or_false, false_or, or_true, true_or, and_true, true_and, and_false, false_and, ne_eq, eq_self, or_self, and_self]; done) | ((with_reducible refine wpf ?_ ?_); · simp (disch := first | omega | decide) only [↓neg1, nlit, rI, rL, rI2, rL1, nI_add, pk_mul, sbT, dvT, nmd, ixT, ↓ibT, ltT, ltF, leT, leF, eqT, eqF, nM_ltT, nM_ltF, nM_leT, nM_leF, nM_eqF, nM_eqF', nbT0, nbT1, oI_s, oI_n, natF, natT, nltT, nltF, nleT, nleF, ↓reduceIte, lgc, not_true_eq_false, not_false_eq_true, or_false, false_or, or_true, true_or, and_true, true_and, and_false, false_and, ne_eq, eq_self, or_self, and_self]; done))
        exact hk' r ⟨hOC, s3⟩
      · have hT : opT m M b = [] := by
          unfold opT
          rw [if_neg (by omega), if_neg (by omega), if_neg (by omega), if_neg (by omega), if_neg (by omega), if_neg (by omega)]
        rw [hT] at hk'
        (try dsimp only); repeat (first | with_reducible refine wpl ?_ | with_reducible refine wpj ?_ | with_reducible refine wpSl ?_ | with_reducible refine wpSr ?_ | with_reducible refine wpS ?_ | ((with_reducible refine wpt ?_ ?_); · simp (disch := first | omega | decide) only [↓neg1, nlit, rI, rL, rI2, rL1, nI_add, pk_mul, sbT, dvT, nmd, ixT, ↓ibT, ltT, ltF, leT, leF, eqT, eqF, nM_ltT, nM_ltF, nM_leT, nM_leF, nM_eqF, nM_eqF', nbT0, nbT1, oI_s, oI_n, natF, natT, nltT, nltF, nleT, nleF, ↓reduceIte, lgc, not_true_eq_false, not_false_eq_true, or_false, false_or, or_true, true_or, and_true, true_and, and_false, false_and, ne_eq, eq_self, or_self, and_self]; done) | ((with_reducible refine wpf ?_ ?_); · simp (disch := first | omega | decide) only [↓neg1, nlit, rI, rL, rI2, rL1, nI_add, pk_mul, sbT, dvT, nmd, ixT, ↓ibT, ltT, ltF, leT, leF, eqT, eqF, nM_ltT, nM_ltF, nM_leT, nM_leF, nM_eqF, nM_eqF', nbT0, nbT1, oI_s, oI_n, natF, natT, nltT, nltF, nleT, nleF, ↓reduceIte, lgc, not_true_eq_false, not_false_eq_true, or_false, false_or, or_true, true_or, and_true, true_and, and_false, false_and, ne_eq, eq_self, or_self, and_self]; done))
        exact hk' r ⟨hOC, s3⟩
      · have hT : opT m M b = [] := by
          unfold opT
          rw [if_neg (by omega), if_neg (by omega), if_neg (by omega), if_neg (by omega), if_neg (by omega), if_neg (by omega)]
        rw [hT] at hk'
        (try dsimp only); repeat (first | with_reducible refine wpl ?_ | with_reducible refine wpj ?_ | with_reducible refine wpSl ?_ | with_reducible refine wpSr ?_ | with_reducible refine wpS ?_ | ((with_reducible refine wpt ?_ ?_); · simp (disch := first | omega | decide) only [↓neg1, nlit, rI, rL, rI2, rL1, nI_add, pk_mul, sbT, dvT, nmd, ixT, ↓ibT, ltT, ltF, leT, leF, eqT, eqF, nM_ltT, nM_ltF, nM_leT, nM_leF, nM_eqF, nM_eqF', nbT0, nbT1, oI_s, oI_n, natF, natT, nltT, nltF, nleT, nleF, ↓reduceIte, lgc, not_true_eq_false, not_false_eq_true, or_false, false_or, or_true, true_or, and_true, true_and, and_false, false_and, ne_eq, eq_self, or_self, and_self]; done) | ((with_reducible refine wpf ?_ ?_); · simp (disch := first | omega | decide) only [↓neg1, nlit, rI, rL, rI2, rL1, nI_add, pk_mul, sbT, dvT, nmd, ixT, ↓ibT, ltT, ltF, leT, leF, eqT, eqF, nM_ltT, nM_ltF, nM_leT, nM_leF, nM_eqF, nM_eqF', nbT0, nbT1, oI_s, oI_n, natF, natT, nltT, nltF, nleT, nleF, ↓reduceIte, lgc, not_true_eq_false, not_false_eq_true, or_false, false_or, or_true, true_or, and_true, true_and, and_false, false_and, ne_eq, eq_self, or_self, and_self]; done))
        exact hk' r ⟨hOC, s3⟩
      · have hT : opT m M b = [] := by
          unfold opT
          rw [if_neg (by omega), if_neg (by omega), if_neg (by omega), if_neg (by omega), if_neg (by omega), if_neg (by omega)]
        rw [hT] at hk'
        (try dsimp only); repeat (first | with_reducible refine wpl ?_ | with_reducible refine wpj ?_ | with_reducible refine wpSl ?_ | with_reducible refine wpSr ?_ | with_reducible refine wpS ?_ | ((with_reducible refine wpt ?_ ?_); · simp (disch := first | omega | decide) only [↓neg1, nlit, rI, rL, rI2, rL1, nI_add, pk_mul, sbT, dvT, nmd, ixT, ↓ibT, ltT, ltF, leT, leF, eqT, eqF, nM_ltT, nM_ltF, nM_leT, nM_leF, nM_eqF, nM_eqF', nbT0, nbT1, oI_s, oI_n, natF, natT, nltT, nltF, nleT, nleF, ↓reduceIte, lgc, not_true_eq_false, not_false_eq_true, or_false, false_or, or_true, true_or, and_true, true_and, and_false, false_and, ne_eq, eq_self, or_self, and_self]; done) | ((with_reducible refine wpf ?_ ?_); · simp (disch := first | omega | decide) only [↓neg1, nlit, rI, rL, rI2, rL1, nI_add, pk_mul, sbT, dvT, nmd, ixT, ↓ibT, ltT, ltF, leT, leF, eqT, eqF, nM_ltT, nM_ltF, nM_leT, nM_leF, nM_eqF, nM_eqF', nbT0, nbT1, oI_s, oI_n, natF, natT, nltT, nltF, nleT, nleF, ↓reduceIte, lgc, not_true_eq_false, not_false_eq_true, or_false, false_or, or_true, true_or, and_true, true_and, and_false, false_and, ne_eq, eq_self, or_self, and_self]; done))
        exact hk' r ⟨hOC, s3⟩
      · have hT : opT m M b = [] := by
          unfold opT
          rw [if_neg (by omega), if_neg (by omega), if_neg (by omega), if_neg (by omega), if_neg (by omega), if_neg (by omega)]
        rw [hT] at hk'
        (try dsimp only); repeat (first | with_reducible refine wpl ?_ | with_reducible refine wpj ?_ | with_reducible refine wpSl ?_ | with_reducible refine wpSr ?_ | with_reducible refine wpS ?_ | ((with_reducible refine wpt ?_ ?_); · simp (disch := first | omega | decide) only [↓neg1, nlit, rI, rL, rI2, rL1, nI_add, pk_mul, sbT, dvT, nmd, ixT, ↓ibT, ltT, ltF, leT, leF, eqT, eqF, nM_ltT, nM_ltF, nM_leT, nM_leF, nM_eqF, nM_eqF', nbT0, nbT1, oI_s, oI_n, natF, natT, nltT, nltF, nleT, nleF, ↓reduceIte, lgc, not_true_eq_false, not_false_eq_true, or_false, false_or, or_true, true_or, and_true, true_and, and_false, false_and, ne_eq, eq_self, or_self, and_self]; done) | ((with_reducible refine wpf ?_ ?_); · simp (disch := first | omega | decide) only [↓neg1, nlit, rI, rL, rI2, rL1, nI_add, pk_mul, sbT, dvT, nmd, ixT, ↓ibT, ltT, ltF, leT, leF, eqT, eqF, nM_ltT, nM_ltF, nM_leT, nM_leF, nM_eqF, nM_eqF', nbT0, nbT1, oI_s, oI_n, natF, natT, nltT, nltF, nleT, nleF, ↓reduceIte, lgc, not_true_eq_false, not_false_eq_true, or_false, false_or, or_true, true_or, and_true, true_and, and_false, false_and, ne_eq, eq_self, or_self, and_self]; done))
        exact hk' r ⟨hOC, s3⟩
      · have hT : opT m M b = [] := by
          unfold opT
          rw [if_neg (by omega), if_neg (by omega), if_neg (by omega), if_neg (by omega), if_neg (by omega), if_neg (by omega)]
        rw [hT] at hk'
        (try dsimp only); repeat (first | with_reducible refine wpl ?_ | with_reducible refine wpj ?_ | with_reducible refine wpSl ?_ | with_reducible refine wpSr ?_ | with_reducible refine wpS ?_ | ((with_reducible refine wpt ?_ ?_); · simp (disch := first | omega | decide) only [↓neg1, nlit, rI, rL, rI2, rL1, nI_add, pk_mul, sbT, dvT, nmd, ixT, ↓ibT, ltT, ltF, leT, leF, eqT, eqF, nM_ltT, nM_ltF, nM_leT, nM_leF, nM_eqF, nM_eqF', nbT0, nbT1, oI_s, oI_n, natF, natT, nltT, nltF, nleT, nleF, ↓reduceIte, lgc, not_true_eq_false, not_false_eq_true, or_false, false_or, or_true, true_or, and_true, true_and, and_false, false_and, ne_eq, eq_self, or_self, and_self]; done) | ((with_reducible refine wpf ?_ ?_); · simp (disch := first | omega | decide) only [↓neg1, nlit, rI, rL, rI2, rL1, nI_add, pk_mul, sbT, dvT, nmd, ixT, ↓ibT, ltT, ltF, leT, leF, eqT, eqF, nM_ltT, nM_ltF, nM_leT, nM_leF, nM_eqF, nM_eqF', nbT0, nbT1, oI_s, oI_n, natF, natT, nltT, nltF, nleT, nleF, ↓reduceIte, lgc, not_true_eq_false, not_false_eq_true, or_false, false_or, or_true, true_or, and_true, true_and, and_false, false_and, ne_eq, eq_self, or_self, and_self]; done))
        exact hk' r ⟨hOC, s3⟩
      · have hT : opT m M b = [] := by
          unfold opT
          rw [if_neg (by omega), if_neg (by omega), if_neg (by omega), if_neg (by omega), if_neg (by omega), if_neg (by omega)]
        rw [hT] at hk'
        (try dsimp only); repeat (first | with_reducible refine wpl ?_ | with_reducible refine wpj ?_ | with_reducible refine wpSl ?_ | with_reducible refine wpSr ?_ | with_reducible refine wpS ?_ | ((with_reducible refine wpt ?_ ?_); · simp (disch := first | omega | decide) only [↓neg1, nlit, rI, rL, rI2, rL1, nI_add, pk_mul, sbT, dvT, nmd, ixT, ↓ibT, ltT, ltF, leT, leF, eqT, eqF, nM_ltT, nM_ltF, nM_leT, nM_leF, nM_eqF, nM_eqF', nbT0, nbT1, oI_s, oI_n, natF, natT, nltT, nltF, nleT, nleF, ↓reduceIte, lgc, not_true_eq_false, not_false_eq_true, or_false, false_or, or_true, true_or, and_true, true_and, and_false, false_and, ne_eq, eq_self, or_self, and_self]; done) | ((with_reducible refine wpf ?_ ?_); · simp (disch := first | omega | decide) only [↓neg1, nlit, rI, rL, rI2, rL1, nI_add, pk_mul, sbT, dvT, nmd, ixT, ↓ibT, ltT, ltF, leT, leF, eqT, eqF, nM_ltT, nM_ltF, nM_leT, nM_leF, nM_eqF, nM_eqF', nbT0, nbT1, oI_s, oI_n, natF, natT, nltT, nltF, nleT, nleF, ↓reduceIte, lgc, not_true_eq_false, not_false_eq_true, or_false, false_or, or_true, true_or, and_true, true_and, and_false, false_and, ne_eq, eq_self, or_self, and_self]; done))
        exact hk' r ⟨hOC, s3⟩
      · have hT : opT m M b = [] := by
          unfold opT
          rw [if_neg (by omega), if_neg (by omega), if_neg (by omega), if_neg (by omega), if_neg (by omega), if_neg (by omega)]
        rw [hT] at hk'
        (try dsimp only); repeat (first | with_reducible refine wpl ?_ | with_reducible refine wpj ?_ | with_reducible refine wpSl ?_ | with_reducible refine wpSr ?_ | with_reducible refine wpS ?_ | ((with_reducible refine wpt ?_ ?_); · simp (disch := first | omega | decide) only [↓neg1, nlit, rI, rL, rI2, rL1, nI_add, pk_mul, sbT, dvT, nmd, ixT, ↓ibT, ltT, ltF, leT, leF, eqT, eqF, nM_ltT, nM_ltF, nM_leT, nM_leF, nM_eqF, nM_eqF', nbT0, nbT1, oI_s, oI_n, natF, natT, nltT, nltF, nleT, nleF, ↓reduceIte, lgc, not_true_eq_false, not_false_eq_true, or_false, false_or, or_true, true_or, and_true, true_and, and_false, false_and, ne_eq, eq_self, or_self, and_self]; done) | ((with_reducible refine wpf ?_ ?_); · simp (disch := first | omega | decide) only [↓neg1, nlit, rI, rL, rI2, rL1, nI_add, pk_mul, sbT, dvT, nmd, ixT, ↓ibT, ltT, ltF, leT, leF, eqT, eqF, nM_ltT, nM_ltF, nM_leT, nM_leF, nM_eqF, nM_eqF', nbT0, nbT1, oI_s, oI_n, natF, natT, nltT, nltF, nleT, nleF, ↓reduceIte, lgc, not_true_eq_false, not_false_eq_true, or_false, false_or, or_true, true_or, and_true, true_and, and_false, false_and, ne_eq, eq_self, or_self, and_self]; done))
        exact hk' r ⟨hOC, s3⟩
      · have hT : opT m M b = [sg (m.2 181 (xN m b)), [46], sg (m.2 183 (12 * xN m b + yN m b))] := by
          unfold opT
          rw [if_neg (by omega), if_neg (by omega), if_neg (by omega), if_neg (by omega), if_neg (by omega), if_pos (by omega)]
        rw [hT] at hk'
        have hx := hR.2.2.2.2.2.1 (by omega)
        (try dsimp only); repeat (first | with_reducible refine wpl ?_ | with_reducible refine wpj ?_ | with_reducible refine wpSl ?_ | with_reducible refine wpSr ?_ | with_reducible refine wpS ?_ | ((with_reducible refine wpt ?_ ?_); · simp (disch := first | omega | decide) only [↓neg1, nlit, rI, rL, rI2, rL1, nI_add, pk_mul, sbT, dvT, nmd, ixT, ↓ibT, ltT, ltF, leT, leF, eqT, eqF, nM_ltT, nM_ltF, nM_leT, nM_leF, nM_eqF, nM_eqF', nbT0, nbT1, oI_s, oI_n, natF, natT, nltT, nltF, nleT, nleF, ↓reduceIte, lgc, not_true_eq_false, not_false_eq_true, or_false, false_or, or_true, true_or, and_true, true_and, and_false, false_and, ne_eq, eq_self, or_self, and_self]; done) | ((with_reducible refine wpf ?_ ?_); · simp (disch := first | omega | decide) only [↓neg1, nlit, rI, rL, rI2, rL1, nI_add, pk_mul, sbT, dvT, nmd, ixT, ↓ibT, ltT, ltF, leT, leF, eqT, eqF, nM_ltT, nM_ltF, nM_leT, nM_leF, nM_eqF, nM_eqF', nbT0, nbT1, oI_s, oI_n, natF, natT, nltT, nltF, nleT, nleF, ↓reduceIte, lgc, not_true_eq_false, not_false_eq_true, or_false, false_or, or_true, true_or, and_true, true_and, and_false, false_and, ne_eq, eq_self, or_self, and_self]; done))
        rw [R1 s3 123 a (by decide) (by decide), R1 s3 122 a (by decide) (by decide), hx.2.2.2.2.1, hx.2.2.2.2.2]
        exact wpc (e334 hn hOr hx.1 hx.2.1 hOC) (fun d hd => hk' d ⟨hd.1, sx_trans s3 hd.2⟩)
      · have hT : opT m M b = [sg (m.2 181 (xN m b)), [46], sg (m.2 183 (12 * xN m b + yN m b))] := by
          unfold opT
          rw [if_neg (by omega), if_neg (by omega), if_neg (by omega), if_neg (by omega), if_neg (by omega), if_pos (by omega)]
        rw [hT] at hk'
        have hx := hR.2.2.2.2.2.1 (by omega)
        (try dsimp only); repeat (first | with_reducible refine wpl ?_ | with_reducible refine wpj ?_ | with_reducible refine wpSl ?_ | with_reducible refine wpSr ?_ | with_reducible refine wpS ?_ | ((with_reducible refine wpt ?_ ?_); · simp (disch := first | omega | decide) only [↓neg1, nlit, rI, rL, rI2, rL1, nI_add, pk_mul, sbT, dvT, nmd, ixT, ↓ibT, ltT, ltF, leT, leF, eqT, eqF, nM_ltT, nM_ltF, nM_leT, nM_leF, nM_eqF, nM_eqF', nbT0, nbT1, oI_s, oI_n, natF, natT, nltT, nltF, nleT, nleF, ↓reduceIte, lgc, not_true_eq_false, not_false_eq_true, or_false, false_or, or_true, true_or, and_true, true_and, and_false, false_and, ne_eq, eq_self, or_self, and_self]; done) | ((with_reducible refine wpf ?_ ?_); · simp (disch := first | omega | decide) only [↓neg1, nlit, rI, rL, rI2, rL1, nI_add, pk_mul, sbT, dvT, nmd, ixT, ↓ibT, ltT, ltF, leT, leF, eqT, eqF, nM_ltT, nM_ltF, nM_leT, nM_leF, nM_eqF, nM_eqF', nbT0, nbT1, oI_s, oI_n, natF, natT, nltT, nltF, nleT, nleF, ↓reduceIte, lgc, not_true_eq_false, not_false_eq_true, or_false, false_or, or_true, true_or, and_true, true_and, and_false, false_and, ne_eq, eq_self, or_self, and_self]; done))
        rw [R1 s3 123 a (by decide) (by decide), R1 s3 122 a (by decide) (by decide), hx.2.2.2.2.1, hx.2.2.2.2.2]
        exact wpc (e334 hn hOr hx.1 hx.2.1 hOC) (fun d hd => hk' d ⟨hd.1, sx_trans s3 hd.2⟩)
  · intro Q' k' hk'
    cases t with
    | some k =>
      have hk9 := ht k rfl
      refine wpt (nI_pos' (by omega)) (hk' c ⟨?_, sx_rfl⟩)
      have hp : preT m b (some k) = [] := if_neg (fun z => by cases z.1)
      rw [hp]
      exact h
    | none =>
      refine wpf (by decide) (wpt (by simp (disch := first | omega | decide) only [↓neg1, nlit, rI, rL, rI2, rL1, nI_add, pk_mul, sbT, dvT, nmd, ixT, ↓ibT, ltT, ltF, leT, leF, eqT, eqF, nM_ltT, nM_ltF, nM_leT, nM_leF, nM_eqF, nM_eqF', nbT0, nbT1, oI_s, oI_n, natF, natT, nltT, nltF, nleT, nleF, ↓reduceIte, lgc, not_true_eq_false, not_false_eq_true, or_false, false_or, or_true, true_or, and_true, true_and, and_false, false_and, ne_eq, eq_self, or_self, and_self]) ?_)
      rw [ix_n (by omega), c127]
      by_cases e : m.2 212 b = 0
      · refine wpt (by simp (disch := first | omega | decide) only [↓neg1, nlit, rI, rL, rI2, rL1, nI_add, pk_mul, sbT, dvT, nmd, ixT, ↓ibT, ltT, ltF, leT, leF, eqT, eqF, nM_ltT, nM_ltF, nM_leT, nM_leF, nM_eqF, nM_eqF', nbT0, nbT1, oI_s, oI_n, natF, natT, nltT, nltF, nleT, nleF, ↓reduceIte, lgc, not_true_eq_false, not_false_eq_true, or_false, false_or, or_true, true_or, and_true, true_and, and_false, false_and, ne_eq, eq_self, or_self, and_self, e]) (hk' c ⟨?_, sx_rfl⟩)
        have hp : preT m b none = [] := if_neg (fun z => z.2 e)
        rw [hp]
        exact h
      · refine wpf (by simp (disch := first | omega | decide) only [↓neg1, nlit, rI, rL, rI2, rL1, nI_add, pk_mul, sbT, dvT, nmd, ixT, ↓ibT, ltT, ltF, leT, leF, eqT, eqF, nM_ltT, nM_ltF, nM_leT, nM_leF, nM_eqF, nM_eqF', nbT0, nbT1, oI_s, oI_n, natF, natT, nltT, nltF, nleT, nleF, ↓reduceIte, lgc, not_true_eq_false, not_false_eq_true, or_false, false_or, or_true, true_or, and_true, true_and, and_false, false_and, ne_eq, eq_self, or_self, and_self, e]) (wpt (by simp (disch := first | omega | decide) only [↓neg1, nlit, rI, rL, rI2, rL1, nI_add, pk_mul, sbT, dvT, nmd, ixT, ↓ibT, ltT, ltF, leT, leF, eqT, eqF, nM_ltT, nM_ltF, nM_leT, nM_leF, nM_eqF, nM_eqF', nbT0, nbT1, oI_s, oI_n, natF, natT, nltT, nltF, nleT, nleF, ↓reduceIte, lgc, not_true_eq_false, not_false_eq_true, or_false, false_or, or_true, true_or, and_true, true_and, and_false, false_and, ne_eq, eq_self, or_self, and_self]) ?_)
        have hp : preT m b none = [sg (m.2 212 b), [58]] := if_pos ⟨rfl, e⟩
        rw [hp] at hk'
        exact wpc (e320 hn h) (fun y1 g1 => wpc (e322 (b := 58) (by decide) g1.1) (fun y2 g2 => hk' y2 ⟨g2.1, sx_trans g1.2 g2.2⟩))
/-! the reference -/
theorem AG_pG {m u w : cS} (h : AG m u) (hs : sx pG u w) : AG m w := AG_sx h hs nP_pG
theorem e448 {n o e : Nat} {m u : cS} {L : List Nat} (hn : 2000 ≤ n) (hA : AG m u) (ho : o < 4) (he : e < 12) (hL : L ≠ []) (h : OG u L) : wp (d_448 n (nI o) (nI e) u) (fun d => OG d (puts L [sg (m.2 181 o), [46], sg (m.2 183 (12 * o + e))]) ∧ sx pG u d) := by
  unfold d_448
  refine wpt (by simp (disch := first | omega | decide) only [↓neg1, nlit, rI, rL, rI2, rL1, nI_add, pk_mul, sbT, dvT, nmd, ixT, ↓ibT, ltT, ltF, leT, leF, eqT, eqF, nM_ltT, nM_ltF, nM_leT, nM_leF, nM_eqF, nM_eqF', nbT0, nbT1, oI_s, oI_n, natF, natT, nltT, nltF, nleT, nleF, ↓reduceIte, lgc, not_true_eq_false, not_false_eq_true, or_false, false_or, or_true, true_or, and_true, true_and, and_false, false_and, ne_eq, eq_self, or_self, and_self]) ?_
  rw [ix_n (by omega), hA.2.1 181 _ rfl]
  refine wpc (e363 (by omega) hL h) (fun d1 h1 => wpc (e362w hn (by decide) (by decide) h1.1) (fun d2 h2 => ?_))
  have s2 := sx_trans h1.2 h2.2
  rw [show (12 : Int32) * nI o + nI e = nI (12 * o + e) by rw [show (12 : Int32) = nI 12 from rfl, pk_mul, nI_add]]
  refine wpt (by simp (disch := first | omega | decide) only [↓neg1, nlit, rI, rL, rI2, rL1, nI_add, pk_mul, sbT, dvT, nmd, ixT, ↓ibT, ltT, ltF, leT, leF, eqT, eqF, nM_ltT, nM_ltF, nM_leT, nM_leF, nM_eqF, nM_eqF', nbT0, nbT1, oI_s, oI_n, natF, natT, nltT, nltF, nleT, nleF, ↓reduceIte, lgc, not_true_eq_false, not_false_eq_true, or_false, false_or, or_true, true_or, and_true, true_and, and_false, false_and, ne_eq, eq_self, or_self, and_self]) ?_
  rw [ix_n (by omega), (AG_pG hA s2).2.1 183 _ rfl]
  have h22 := h2.1
  rw [wbs.2.2.1] at h22
  exact wpc (e363 (by omega) (put_ne (Or.inl (put_ne (Or.inl hL)))) h22) (fun d3 h3 => ⟨h3.1, sx_trans s2 h3.2⟩)
theorem mkR {n a b : Nat} {c m u : cS} {L : List Nat} (hn : 2000 ≤ n) (hA : AG m u) (hO : OOS c m) (hb : b < 3840) (hT : TLR c m a b) (hL : L ≠ []) (h : OG u L) : wp (whl (R := (cS)) (fun s18 : Int32 × cS =>
        if ib (nI b) 3840 then
        if (s18.2.1 219 b) ≤ s18.1 then
          some (.inr s18.2)
        else
          Option.bind (d_362 n 49 s18.2) (fun r20 =>
          if ib ((4 * (nI b)) + s18.1) 15360 then
          if ib ((4 * (nI b)) + s18.1) 15360 then
          Option.bind (d_448 n (r20.1 220 (ix ((4 * (nI b)) + s18.1))) (r20.1 221 (ix ((4 * (nI b)) + s18.1))) r20) (fun r23 =>
          lt (s18.1 + 1 : Int32) (fun v25 =>
          some (.inl (v25, r23))))
          else none
          else none)
        else none) n (0, u)) (fun d => OG d (puts L (mkT m b (tdn m b))) ∧ sx pG u d) := by
  obtain ⟨t1, t2, t3, t4, -⟩ := hT
  have ho4 := hO.1
  refine whl_cnt (fun k (st : Int32 × cS) => st.1 = nI k ∧ OG st.2 (puts L (mkT m b k)) ∧ sx pG u st.2) (tdn m b) ?_ ?_ (by omega) ⟨rfl, h, sx_rfl⟩
  · rintro k ⟨k0, w⟩ hk ⟨g1, g2, g3⟩
    dsimp only at g1 g2 g3
    subst g1
    dsimp only
    obtain ⟨b1, b2, b3, b4, -⟩ := t4 k hk
    have hel := OOS_el hO b1
    have hAw := AG_pG hA g3
    refine wpt (by simp (disch := first | omega | decide) only [↓neg1, nlit, rI, rL, rI2, rL1, nI_add, pk_mul, sbT, dvT, nmd, ixT, ↓ibT, ltT, ltF, leT, leF, eqT, eqF, nM_ltT, nM_ltF, nM_leT, nM_leF, nM_eqF, nM_eqF', nbT0, nbT1, oI_s, oI_n, natF, natT, nltT, nltF, nleT, nleF, ↓reduceIte, lgc, not_true_eq_false, not_false_eq_true, or_false, false_or, or_true, true_or, and_true, true_and, and_false, false_and, ne_eq, eq_self, or_self, and_self]) ?_
    rw [hAw.1 219 _ rfl, t2]
    refine wpf (by simp (disch := first | omega | decide) only [↓neg1, nlit, rI, rL, rI2, rL1, nI_add, pk_mul, sbT, dvT, nmd, ixT, ↓ibT, ltT, ltF, leT, leF, eqT, eqF, nM_ltT, nM_ltF, nM_leT, nM_leF, nM_eqF, nM_eqF', nbT0, nbT1, oI_s, oI_n, natF, natT, nltT, nltF, nleT, nleF, ↓reduceIte, lgc, not_true_eq_false, not_false_eq_true, or_false, false_or, or_true, true_or, and_true, true_and, and_false, false_and, ne_eq, eq_self, or_self, and_self]) (wpc (e362w hn (by decide) (by decide) g2) (fun r hr => ?_))
    have sr := sx_trans g3 hr.2
    have hAr := AG_pG hA sr
    rw [show (4 : Int32) * nI b + nI k = nI (4 * b + k) by rw [show (4 : Int32) = nI 4 from rfl, pk_mul, nI_add]]
    refine wpt (by simp (disch := first | omega | decide) only [↓neg1, nlit, rI, rL, rI2, rL1, nI_add, pk_mul, sbT, dvT, nmd, ixT, ↓ibT, ltT, ltF, leT, leF, eqT, eqF, nM_ltT, nM_ltF, nM_leT, nM_leF, nM_eqF, nM_eqF', nbT0, nbT1, oI_s, oI_n, natF, natT, nltT, nltF, nleT, nleF, ↓reduceIte, lgc, not_true_eq_false, not_false_eq_true, or_false, false_or, or_true, true_or, and_true, true_and, and_false, false_and, ne_eq, eq_self, or_self, and_self]) (wpt (by simp (disch := first | omega | decide) only [↓neg1, nlit, rI, rL, rI2, rL1, nI_add, pk_mul, sbT, dvT, nmd, ixT, ↓ibT, ltT, ltF, leT, leF, eqT, eqF, nM_ltT, nM_ltF, nM_leT, nM_leF, nM_eqF, nM_eqF', nbT0, nbT1, oI_s, oI_n, natF, natT, nltT, nltF, nleT, nleF, ↓reduceIte, lgc, not_true_eq_false, not_false_eq_true, or_false, false_or, or_true, true_or, and_true, true_and, and_false, false_and, ne_eq, eq_self, or_self, and_self]) ?_)
    rw [ix_n (by omega), hAr.1 220 _ rfl, hAr.1 221 _ rfl, b3, b4]
    have hr1 := hr.1
    rw [wbs.2.1] at hr1
    refine wpc (e448 hn hAr (by omega) (by omega) (put_ne (Or.inl (puts_ne hL _))) hr1) (fun d hd => wpl ⟨nI_1 _, ?_, sx_trans sr hd.2⟩)
    dsimp only
    show OG d (puts L (mkT m b k ++ [[64], sg (m.2 181 (toR m b k)), [46], sg (m.2 183 (12 * toR m b k + teR m b k))]))
    rw [puts_app]
    exact hd.1
  · rintro ⟨k0, w⟩ ⟨g1, g2, g3⟩
    dsimp only at g1 g2 g3
    subst g1
    dsimp only
    refine wpt (by simp (disch := first | omega | decide) only [↓neg1, nlit, rI, rL, rI2, rL1, nI_add, pk_mul, sbT, dvT, nmd, ixT, ↓ibT, ltT, ltF, leT, leF, eqT, eqF, nM_ltT, nM_ltF, nM_leT, nM_leF, nM_eqF, nM_eqF', nbT0, nbT1, oI_s, oI_n, natF, natT, nltT, nltF, nleT, nleF, ↓reduceIte, lgc, not_true_eq_false, not_false_eq_true, or_false, false_or, or_true, true_or, and_true, true_and, and_false, false_and, ne_eq, eq_self, or_self, and_self]) ?_
    rw [(AG_pG hA g3).1 219 _ rfl, t2]
    exact wpt (by simp (disch := first | omega | decide) only [↓neg1, nlit, rI, rL, rI2, rL1, nI_add, pk_mul, sbT, dvT, nmd, ixT, ↓ibT, ltT, ltF, leT, leF, eqT, eqF, nM_ltT, nM_ltF, nM_leT, nM_leF, nM_eqF, nM_eqF', nbT0, nbT1, oI_s, oI_n, natF, natT, nltT, nltF, nleT, nleF, ↓reduceIte, lgc, not_true_eq_false, not_false_eq_true, or_false, false_or, or_true, true_or, and_true, true_and, and_false, false_and, ne_eq, eq_self, or_self, and_self]) ⟨g2, g3⟩
theorem e447 {n M i : Nat} {t : Option Nat} {a4 : Int32} {c m u : cS} {L : List Nat} (hn : 2000 ≤ n) (hA : AG m u) (hG : PG c m) (hM : isMt m M) (hi : i < acn m M) (ht : ∀ k, t = some k → isL m (40 * M + i) = true → k < 10 ^ 9 ∧ ∀ p, sx pG u p → d_465 n (nI M) (nI (lbT m (40 * M + i))) a4 p = some (nI k)) (h : OG u L) : wp (d_447 n (nI M) (nI (40 * M + i)) (if t = none then 0 else 1) a4 u) (fun d => OG d (puts L ([wb (2 + opn m (40 * M + i))] ++ opT m M (40 * M + i) ++ lbK m M (40 * M + i) t)) ∧ sx pG u d) := by
  have hMT := hG.2.2
  have hO := hG.1.1
  have hC := hG.1.2.2.1
  have hac := MTS_ac hMT hM hi
  have hmt := (hMT.2.1 M hM).1
  have hM96 := isMt_lt hC hM
  obtain ⟨hop, m211, c121, c127, c124, -, hR, -⟩ := hac
  have hn40 := hmt.1.2
  have hl8 := hmt.2.2.2.1.1
  have hb38 : 40 * M + i < 3840 := by omega
  have hcl : 40 * M + i = 40 * M + i := rfl
  generalize hb : 40 * M + i = b at *
  rw [puts_app, puts_app, puts_1]
  unfold d_447
  refine wpt (by simp (disch := first | omega | decide) only [↓neg1, nlit, rI, rL, rI2, rL1, nI_add, pk_mul, sbT, dvT, nmd, ixT, ↓ibT, ltT, ltF, leT, leF, eqT, eqF, nM_ltT, nM_ltF, nM_leT, nM_leF, nM_eqF, nM_eqF', nbT0, nbT1, oI_s, oI_n, natF, natT, nltT, nltF, nleT, nleF, ↓reduceIte, lgc, not_true_eq_false, not_false_eq_true, or_false, false_or, or_true, true_or, and_true, true_and, and_false, false_and, ne_eq, eq_self, or_self, and_self]) ?_
  rw [ix_n (by omega), hA.1 211 _ rfl, m211]
  refine wpt (by simp (disch := first | omega | decide) only [↓neg1, nlit, rI, rL, rI2, rL1, nI_add, pk_mul, sbT, dvT, nmd, ixT, ↓ibT, ltT, ltF, leT, leF, eqT, eqF, nM_ltT, nM_ltF, nM_leT, nM_leF, nM_eqF, nM_eqF', nbT0, nbT1, oI_s, oI_n, natF, natT, nltT, nltF, nleT, nleF, ↓reduceIte, lgc, not_true_eq_false, not_false_eq_true, or_false, false_or, or_true, true_or, and_true, true_and, and_false, false_and, ne_eq, eq_self, or_self, and_self]) ?_
  rw [ix_n (by omega)]
  refine wpc (e362w hn (by omega) (by omega) h) (fun r hr => ?_)
  have s3 := hr.2
  have hAr := AG_pG hA s3
  have hL2 : put L (wb (2 + opn m b)) ≠ [] := put_ne (Or.inr (wb_ne (by omega) (by omega)))
  have hOG := hr.1
  generalize put L (wb (2 + opn m b)) = L2 at *
  refine wpt (by simp (disch := first | omega | decide) only [↓neg1, nlit, rI, rL, rI2, rL1, nI_add, pk_mul, sbT, dvT, nmd, ixT, ↓ibT, ltT, ltF, leT, leF, eqT, eqF, nM_ltT, nM_ltF, nM_leT, nM_leF, nM_eqF, nM_eqF', nbT0, nbT1, oI_s, oI_n, natF, natT, nltT, nltF, nleT, nleF, ↓reduceIte, lgc, not_true_eq_false, not_false_eq_true, or_false, false_or, or_true, true_or, and_true, true_and, and_false, false_and, ne_eq, eq_self, or_self, and_self]) ?_
  refine wpjQ (fun z : cS => OG z (puts L2 (opT m M b)) ∧ sx pG u z) ?_ ?_
  · rintro z ⟨z1, z2⟩
    have hL3 := puts_ne hL2 (opT m M b)
    have hAz := AG_pG hA z2
    generalize puts L2 (opT m M b) = L3 at *
    refine wpt (by simp (disch := first | omega | decide) only [↓neg1, nlit, rI, rL, rI2, rL1, nI_add, pk_mul, sbT, dvT, nmd, ixT, ↓ibT, ltT, ltF, leT, leF, eqT, eqF, nM_ltT, nM_ltF, nM_leT, nM_leF, nM_eqF, nM_eqF', nbT0, nbT1, oI_s, oI_n, natF, natT, nltT, nltF, nleT, nleF, ↓reduceIte, lgc, not_true_eq_false, not_false_eq_true, or_false, false_or, or_true, true_or, and_true, true_and, and_false, false_and, ne_eq, eq_self, or_self, and_self]) ?_
    rw [hAz.1 216 _ rfl]
    by_cases hl : opn m b = 27 ∨ opn m b = 28 ∨ opn m b = 29
    · obtain ⟨t', l1, l2, l3⟩ := hR.2.2.2.2.2.2.1 hl
      have hlb : lbT m b = t' := by
        unfold lbT
        rw [l2, ix_n (by omega)]
      have hK : lbK m M b t = [lbW m M t' t] := by
        unfold lbK
        rw [if_pos (show isL m b = true from decide_eq_true hl), hlb]
      rw [hK, l2]
      refine wpt (nI_pos' (by omega)) (wpj ?_)
      cases t with
      | some k =>
        obtain ⟨k9, hk9⟩ := ht k rfl (decide_eq_true hl)
        rw [show (if (some k : Option Nat) = none then (0 : Int32) else 1) = 1 from rfl]
        rw [hlb] at hk9
        refine wpf (by decide) (wpt (by simp (disch := first | omega | decide) only [↓neg1, nlit, rI, rL, rI2, rL1, nI_add, pk_mul, sbT, dvT, nmd, ixT, ↓ibT, ltT, ltF, leT, leF, eqT, eqF, nM_ltT, nM_ltF, nM_leT, nM_leF, nM_eqF, nM_eqF', nbT0, nbT1, oI_s, oI_n, natF, natT, nltT, nltF, nleT, nleF, ↓reduceIte, lgc, not_true_eq_false, not_false_eq_true, or_false, false_or, or_true, true_or, and_true, true_and, and_false, false_and, ne_eq, eq_self, or_self, and_self]) (wpe (hk9 z z2) ?_))
        have hxn : natN (nI k) = k := by
          unfold natN
          rw [nI_toInt (by omega)]
          omega
        rw [nat_pos (x := nI k) (nI_pos' (by omega)), hxn]
        exact wpc (e364 (by omega) (by omega) hL3 z1) (fun d hd => ⟨hd.1, sx_trans z2 hd.2⟩)
      | none =>
        rw [show (if (none : Option Nat) = none then (0 : Int32) else 1) = 0 from rfl, show (40 : Int32) * nI M + nI t' = nI (40 * M + t') by rw [show (40 : Int32) = nI 40 from rfl, pk_mul, nI_add]]
        refine wpt rfl (wpt (by simp (disch := first | omega | decide) only [↓neg1, nlit, rI, rL, rI2, rL1, nI_add, pk_mul, sbT, dvT, nmd, ixT, ↓ibT, ltT, ltF, leT, leF, eqT, eqF, nM_ltT, nM_ltF, nM_leT, nM_leF, nM_eqF, nM_eqF', nbT0, nbT1, oI_s, oI_n, natF, natT, nltT, nltF, nleT, nleF, ↓reduceIte, lgc, not_true_eq_false, not_false_eq_true, or_false, false_or, or_true, true_or, and_true, true_and, and_false, false_and, ne_eq, eq_self, or_self, and_self]) (wpt (by simp (disch := first | omega | decide) only [↓neg1, nlit, rI, rL, rI2, rL1, nI_add, pk_mul, sbT, dvT, nmd, ixT, ↓ibT, ltT, ltF, leT, leF, eqT, eqF, nM_ltT, nM_ltF, nM_leT, nM_leF, nM_eqF, nM_eqF', nbT0, nbT1, oI_s, oI_n, natF, natT, nltT, nltF, nleT, nleF, ↓reduceIte, lgc, not_true_eq_false, not_false_eq_true, or_false, false_or, or_true, true_or, and_true, true_and, and_false, false_and, ne_eq, eq_self, or_self, and_self]) ?_))
        rw [ix_n (by omega), hAz.2.1 212 _ rfl]
        exact wpc (e363 (by omega) hL3 z1) (fun d hd => ⟨hd.1, sx_trans z2 hd.2⟩)
    · have l2 := hR.2.2.2.2.2.2.2 ⟨fun z => hl (Or.inl z), fun z => hl (Or.inr (Or.inl z)), fun z => hl (Or.inr (Or.inr z))⟩
      have hK : lbK m M b t = [] := by
        unfold lbK
        rw [if_neg (show ¬ isL m b = true from fun z => hl (of_decide_eq_true z))]
      rw [hK, l2]
      exact wpf (by decide) ⟨z1, z2⟩
  · intro Q' k' hk'
    have h211 : r.1 211 b = nI (opn m b) := (hAr.1 211 _ rfl).trans m211
    rw [h211]
    refine wpj (wpj (wpj (wpj ?_)))
    rcases op17 hop with e | e | e | e | e | e | e | e | e | e | e | e | e | e | e | e | e
    · have hT : opT m M b = nt (m.1 214 b) ++ mkT m b (tdn m b) := by
        unfold opT
        rw [if_pos (by omega)]
      rw [hT] at hk'
      rw [puts_app] at hk'
      (try dsimp only); repeat (first | with_reducible refine wpl ?_ | with_reducible refine wpj ?_ | with_reducible refine wpSl ?_ | with_reducible refine wpSr ?_ | with_reducible refine wpS ?_ | ((with_reducible refine wpt ?_ ?_); · simp (disch := first | omega | decide) only [↓neg1, nlit, rI, rL, rI2, rL1, nI_add, pk_mul, sbT, dvT, nmd, ixT, ↓ibT, ltT, ltF, leT, leF, eqT, eqF, nM_ltT, nM_ltF, nM_leT, nM_leF, nM_eqF, nM_eqF', nbT0, nbT1, oI_s, oI_n, natF, natT, nltT, nltF, nleT, nleF, ↓reduceIte, lgc, not_true_eq_false, not_false_eq_true, or_false, false_or, or_true, true_or, and_true, true_and, and_false, false_and, ne_eq, eq_self, or_self, and_self]; done) | ((with_reducible refine wpf ?_ ?_); · simp (disch := first | omega | decide) only [↓neg1, nlit, rI, rL, rI2, rL1, nI_add, pk_mul, sbT, dvT, nmd, ixT, ↓ibT, ltT, ltF, leT, leF, eqT, eqF, nM_ltT, nM_ltF, nM_leT, nM_leF, nM_eqF, nM_eqF', nbT0, nbT1, oI_s, oI_n, natF, natT, nltT, nltF, nleT, nleF, ↓reduceIte, lgc, not_true_eq_false, not_false_eq_true, or_false, false_or, or_true, true_or, and_true, true_and, and_false, false_and, ne_eq, eq_self, or_self, and_self]; done))
      rw [hAr.1 214 _ rfl]
      refine wpc (e365 hn hL2 hOG) (fun d hd => ?_)
      have sd := sx_trans s3 hd.2
      refine wpc (mkR hn (AG_pG hA sd) hO hb38 (hR.2.1 (by omega)) (puts_ne hL2 _) hd.1) (fun d2 hd2 => hk' d2 ⟨hd2.1, sx_trans sd hd2.2⟩)
    · have hT : opT m M b = mkT m b (tdn m b) := by
        unfold opT
        rw [if_neg (by omega), if_pos (by omega)]
      rw [hT] at hk'
      (try dsimp only); repeat (first | with_reducible refine wpl ?_ | with_reducible refine wpj ?_ | with_reducible refine wpSl ?_ | with_reducible refine wpSr ?_ | with_reducible refine wpS ?_ | ((with_reducible refine wpt ?_ ?_); · simp (disch := first | omega | decide) only [↓neg1, nlit, rI, rL, rI2, rL1, nI_add, pk_mul, sbT, dvT, nmd, ixT, ↓ibT, ltT, ltF, leT, leF, eqT, eqF, nM_ltT, nM_ltF, nM_leT, nM_leF, nM_eqF, nM_eqF', nbT0, nbT1, oI_s, oI_n, natF, natT, nltT, nltF, nleT, nleF, ↓reduceIte, lgc, not_true_eq_false, not_false_eq_true, or_false, false_or, or_true, true_or, and_true, true_and, and_false, false_and, ne_eq, eq_self, or_self, and_self]; done) | ((with_reducible refine wpf ?_ ?_); · simp (disch := first | omega | decide) only [↓neg1, nlit, rI, rL, rI2, rL1, nI_add, pk_mul, sbT, dvT, nmd, ixT, ↓ibT, ltT, ltF, leT, leF, eqT, eqF, nM_ltT, nM_ltF, nM_leT, nM_leF, nM_eqF, nM_eqF', nbT0, nbT1, oI_s, oI_n, natF, natT, nltT, nltF, nleT, nleF, ↓reduceIte, lgc, not_true_eq_false, not_false_eq_true, or_false, false_or, or_true, true_or, and_true, true_and, and_false, false_and, ne_eq, eq_self, or_self, and_self]; done))
      refine wpc (mkR hn hAr hO hb38 (hR.2.1 (by omega)) hL2 hOG) (fun d2 hd2 => hk' d2 ⟨hd2.1, sx_trans s3 hd2.2⟩)
    · have hT : opT m M b = [sg (m.2 209 (8 * M + xN m b))] := by
        unfold opT
        rw [if_neg (by omega), if_neg (by omega), if_pos (by omega)]
      rw [hT] at hk'
      have hx := hR.2.2.1 (by omega)
      (try dsimp only); repeat (first | with_reducible refine wpl ?_ | with_reducible refine wpj ?_ | with_reducible refine wpSl ?_ | with_reducible refine wpSr ?_ | with_reducible refine wpS ?_ | ((with_reducible refine wpt ?_ ?_); · simp (disch := first | omega | decide) only [↓neg1, nlit, rI, rL, rI2, rL1, nI_add, pk_mul, sbT, dvT, nmd, ixT, ↓ibT, ltT, ltF, leT, leF, eqT, eqF, nM_ltT, nM_ltF, nM_leT, nM_leF, nM_eqF, nM_eqF', nbT0, nbT1, oI_s, oI_n, natF, natT, nltT, nltF, nleT, nleF, ↓reduceIte, lgc, not_true_eq_false, not_false_eq_true, or_false, false_or, or_true, true_or, and_true, true_and, and_false, false_and, ne_eq, eq_self, or_self, and_self]; done) | ((with_reducible refine wpf ?_ ?_); · simp (disch := first | omega | decide) only [↓neg1, nlit, rI, rL, rI2, rL1, nI_add, pk_mul, sbT, dvT, nmd, ixT, ↓ibT, ltT, ltF, leT, leF, eqT, eqF, nM_ltT, nM_ltF, nM_leT, nM_leF, nM_eqF, nM_eqF', nbT0, nbT1, oI_s, oI_n, natF, natT, nltT, nltF, nleT, nleF, ↓reduceIte, lgc, not_true_eq_false, not_false_eq_true, or_false, false_or, or_true, true_or, and_true, true_and, and_false, false_and, ne_eq, eq_self, or_self, and_self]; done))
      rw [hAr.1 214 _ rfl, hx.2.1, show (8 : Int32) * nI M + nI (xN m b) = nI (8 * M + xN m b) by rw [show (8 : Int32) = nI 8 from rfl, pk_mul, nI_add]]
      refine wpt (by simp (disch := first | omega | decide) only [↓neg1, nlit, rI, rL, rI2, rL1, nI_add, pk_mul, sbT, dvT, nmd, ixT, ↓ibT, ltT, ltF, leT, leF, eqT, eqF, nM_ltT, nM_ltF, nM_leT, nM_leF, nM_eqF, nM_eqF', nbT0, nbT1, oI_s, oI_n, natF, natT, nltT, nltF, nleT, nleF, ↓reduceIte, lgc, not_true_eq_false, not_false_eq_true, or_false, false_or, or_true, true_or, and_true, true_and, and_false, false_and, ne_eq, eq_self, or_self, and_self]) ?_
      rw [ix_n (by omega), hAr.2.1 209 _ rfl]
      exact wpc (e363 (by omega) hL2 hOG) (fun d hd => hk' d ⟨hd.1, sx_trans s3 hd.2⟩)
    · have hT : opT m M b = [sg (m.2 209 (8 * M + xN m b))] := by
        unfold opT
        rw [if_neg (by omega), if_neg (by omega), if_pos (by omega)]
      rw [hT] at hk'
      have hx := hR.2.2.1 (by omega)
      (try dsimp only); repeat (first | with_reducible refine wpl ?_ | with_reducible refine wpj ?_ | with_reducible refine wpSl ?_ | with_reducible refine wpSr ?_ | with_reducible refine wpS ?_ | ((with_reducible refine wpt ?_ ?_); · simp (disch := first | omega | decide) only [↓neg1, nlit, rI, rL, rI2, rL1, nI_add, pk_mul, sbT, dvT, nmd, ixT, ↓ibT, ltT, ltF, leT, leF, eqT, eqF, nM_ltT, nM_ltF, nM_leT, nM_leF, nM_eqF, nM_eqF', nbT0, nbT1, oI_s, oI_n, natF, natT, nltT, nltF, nleT, nleF, ↓reduceIte, lgc, not_true_eq_false, not_false_eq_true, or_false, false_or, or_true, true_or, and_true, true_and, and_false, false_and, ne_eq, eq_self, or_self, and_self]; done) | ((with_reducible refine wpf ?_ ?_); · simp (disch := first | omega | decide) only [↓neg1, nlit, rI, rL, rI2, rL1, nI_add, pk_mul, sbT, dvT, nmd, ixT, ↓ibT, ltT, ltF, leT, leF, eqT, eqF, nM_ltT, nM_ltF, nM_leT, nM_leF, nM_eqF, nM_eqF', nbT0, nbT1, oI_s, oI_n, natF, natT, nltT, nltF, nleT, nleF, ↓reduceIte, lgc, not_true_eq_false, not_false_eq_true, or_false, false_or, or_true, true_or, and_true, true_and, and_false, false_and, ne_eq, eq_self, or_self, and_self]; done))
      rw [hAr.1 214 _ rfl, hx.2.1, show (8 : Int32) * nI M + nI (xN m b) = nI (8 * M + xN m b) by rw [show (8 : Int32) = nI 8 from rfl, pk_mul, nI_add]]
      refine wpt (by simp (disch := first | omega | decide) only [↓neg1, nlit, rI, rL, rI2, rL1, nI_add, pk_mul, sbT, dvT, nmd, ixT, ↓ibT, ltT, ltF, leT, leF, eqT, eqF, nM_ltT, nM_ltF, nM_leT, nM_leF, nM_eqF, nM_eqF', nbT0, nbT1, oI_s, oI_n, natF, natT, nltT, nltF, nleT, nleF, ↓reduceIte, lgc, not_true_eq_false, not_false_eq_true, or_false, false_or, or_true, true_or, and_true, true_and, and_false, false_and, ne_eq, eq_self, or_self, and_self]) ?_
      rw [ix_n (by omega), hAr.2.1 209 _ rfl]
      exact wpc (e363 (by omega) hL2 hOG) (fun d hd => hk' d ⟨hd.1, sx_trans s3 hd.2⟩)
    · have hT : opT m M b = [sg (m.2 200 (ix (m.1 229 b))), [46], sg (m.2 204 (8 * xN m b + yN m b))] := by
        unfold opT
        rw [if_neg (by omega), if_neg (by omega), if_neg (by omega), if_pos (by omega)]
      rw [hT] at hk'
      have hx := hR.2.2.2.1 (by omega)
      obtain ⟨dd, d1, d2, d3⟩ := hx.2.2.2.2.2.1
      have hcc := (CCS_p hC).1
      have hfy : yN m b < 8 := by
        have := (hC.1.2.2.2.2.1 _ hx.1).1
        have := (hC.1.2.2.2.1 _ hx.1).1
        have := hx.2.1
        omega
      have hx1 := hx.1
      rw [d2, ix_n (by omega)] at hk'
      (try dsimp only); repeat (first | with_reducible refine wpl ?_ | with_reducible refine wpj ?_ | with_reducible refine wpSl ?_ | with_reducible refine wpSr ?_ | with_reducible refine wpS ?_ | ((with_reducible refine wpt ?_ ?_); · simp (disch := first | omega | decide) only [↓neg1, nlit, rI, rL, rI2, rL1, nI_add, pk_mul, sbT, dvT, nmd, ixT, ↓ibT, ltT, ltF, leT, leF, eqT, eqF, nM_ltT, nM_ltF, nM_leT, nM_leF, nM_eqF, nM_eqF', nbT0, nbT1, oI_s, oI_n, natF, natT, nltT, nltF, nleT, nleF, ↓reduceIte, lgc, not_true_eq_false, not_false_eq_true, or_false, false_or, or_true, true_or, and_true, true_and, and_false, false_and, ne_eq, eq_self, or_self, and_self]; done) | ((with_reducible refine wpf ?_ ?_); · simp (disch := first | omega | decide) only [↓neg1, nlit, rI, rL, rI2, rL1, nI_add, pk_mul, sbT, dvT, nmd, ixT, ↓ibT, ltT, ltF, leT, leF, eqT, eqF, nM_ltT, nM_ltF, nM_leT, nM_leF, nM_eqF, nM_eqF', nbT0, nbT1, oI_s, oI_n, natF, natT, nltT, nltF, nleT, nleF, ↓reduceIte, lgc, not_true_eq_false, not_false_eq_true, or_false, false_or, or_true, true_or, and_true, true_and, and_false, false_and, ne_eq, eq_self, or_self, and_self]; done))
      rw [hAr.1 229 _ rfl, d2]
      refine wpt (by simp (disch := first | omega | decide) only [↓neg1, nlit, rI, rL, rI2, rL1, nI_add, pk_mul, sbT, dvT, nmd, ixT, ↓ibT, ltT, ltF, leT, leF, eqT, eqF, nM_ltT, nM_ltF, nM_leT, nM_leF, nM_eqF, nM_eqF', nbT0, nbT1, oI_s, oI_n, natF, natT, nltT, nltF, nleT, nleF, ↓reduceIte, lgc, not_true_eq_false, not_false_eq_true, or_false, false_or, or_true, true_or, and_true, true_and, and_false, false_and, ne_eq, eq_self, or_self, and_self]) ?_
      rw [ix_n (by omega), hAr.2.1 200 _ rfl]
      refine wpc (e363 (by omega) hL2 hOG) (fun y1 g1 => wpc (e362w hn (by decide) (by decide) g1.1) (fun y2 g2 => wpt (by simp (disch := first | omega | decide) only [↓neg1, nlit, rI, rL, rI2, rL1, nI_add, pk_mul, sbT, dvT, nmd, ixT, ↓ibT, ltT, ltF, leT, leF, eqT, eqF, nM_ltT, nM_ltF, nM_leT, nM_leF, nM_eqF, nM_eqF', nbT0, nbT1, oI_s, oI_n, natF, natT, nltT, nltF, nleT, nleF, ↓reduceIte, lgc, not_true_eq_false, not_false_eq_true, or_false, false_or, or_true, true_or, and_true, true_and, and_false, false_and, ne_eq, eq_self, or_self, and_self]) (wpj ?_)))
      have s5 := sx_trans s3 (sx_trans g1.2 g2.2)
      have hAy := AG_pG hA s5
      have h211y : y2.1 211 b = nI (opn m b) := (hAy.1 211 _ rfl).trans m211
      have g21 := g2.1
      rw [wbs.2.2.1] at g21
      refine wpf (by rw [h211y]; simp (disch := first | omega | decide) only [↓neg1, nlit, rI, rL, rI2, rL1, nI_add, pk_mul, sbT, dvT, nmd, ixT, ↓ibT, ltT, ltF, leT, leF, eqT, eqF, nM_ltT, nM_ltF, nM_leT, nM_leF, nM_eqF, nM_eqF', nbT0, nbT1, oI_s, oI_n, natF, natT, nltT, nltF, nleT, nleF, ↓reduceIte, lgc, not_true_eq_false, not_false_eq_true, or_false, false_or, or_true, true_or, and_true, true_and, and_false, false_and, ne_eq, eq_self, or_self, and_self]) (wpt (by simp (disch := first | omega | decide) only [↓neg1, nlit, rI, rL, rI2, rL1, nI_add, pk_mul, sbT, dvT, nmd, ixT, ↓ibT, ltT, ltF, leT, leF, eqT, eqF, nM_ltT, nM_ltF, nM_leT, nM_leF, nM_eqF, nM_eqF', nbT0, nbT1, oI_s, oI_n, natF, natT, nltT, nltF, nleT, nleF, ↓reduceIte, lgc, not_true_eq_false, not_false_eq_true, or_false, false_or, or_true, true_or, and_true, true_and, and_false, false_and, ne_eq, eq_self, or_self, and_self]) (wpt (by simp (disch := first | omega | decide) only [↓neg1, nlit, rI, rL, rI2, rL1, nI_add, pk_mul, sbT, dvT, nmd, ixT, ↓ibT, ltT, ltF, leT, leF, eqT, eqF, nM_ltT, nM_ltF, nM_leT, nM_leF, nM_eqF, nM_eqF', nbT0, nbT1, oI_s, oI_n, natF, natT, nltT, nltF, nleT, nleF, ↓reduceIte, lgc, not_true_eq_false, not_false_eq_true, or_false, false_or, or_true, true_or, and_true, true_and, and_false, false_and, ne_eq, eq_self, or_self, and_self]) ?_))
      rw [hAy.1 214 _ rfl, hAy.1 215 _ rfl, hx.2.2.1, hx.2.2.2.1, show (8 : Int32) * nI (xN m b) + nI (yN m b) = nI (8 * xN m b + yN m b) by rw [show (8 : Int32) = nI 8 from rfl, pk_mul, nI_add]]
      refine wpt (by simp (disch := first | omega | decide) only [↓neg1, nlit, rI, rL, rI2, rL1, nI_add, pk_mul, sbT, dvT, nmd, ixT, ↓ibT, ltT, ltF, leT, leF, eqT, eqF, nM_ltT, nM_ltF, nM_leT, nM_leF, nM_eqF, nM_eqF', nbT0, nbT1, oI_s, oI_n, natF, natT, nltT, nltF, nleT, nleF, ↓reduceIte, lgc, not_true_eq_false, not_false_eq_true, or_false, false_or, or_true, true_or, and_true, true_and, and_false, false_and, ne_eq, eq_self, or_self, and_self]) ?_
      rw [ix_n (by omega), hAy.2.1 204 _ rfl]
      exact wpc (e363 (by omega) (put_ne (Or.inl (put_ne (Or.inl hL2)))) g21) (fun d hd => hk' d ⟨hd.1, sx_trans s5 hd.2⟩)
    · have hT : opT m M b = [sg (m.2 200 (ix (m.1 229 b))), [46], sg (m.2 204 (8 * xN m b + yN m b))] := by
        unfold opT
        rw [if_neg (by omega), if_neg (by omega), if_neg (by omega), if_pos (by omega)]
      rw [hT] at hk'
      have hx := hR.2.2.2.1 (by omega)
      obtain ⟨dd, d1, d2, d3⟩ := hx.2.2.2.2.2.1
      have hcc := (CCS_p hC).1
      have hfy : yN m b < 8 := by
        have := (hC.1.2.2.2.2.1 _ hx.1).1
        have := (hC.1.2.2.2.1 _ hx.1).1
        have := hx.2.1
        omega
      have hx1 := hx.1
      rw [d2, ix_n (by omega)] at hk'
      (try dsimp only); repeat (first | with_reducible refine wpl ?_ | with_reducible refine wpj ?_ | with_reducible refine wpSl ?_ | with_reducible refine wpSr ?_ | with_reducible refine wpS ?_ | ((with_reducible refine wpt ?_ ?_); · simp (disch := first | omega | decide) only [↓neg1, nlit, rI, rL, rI2, rL1, nI_add, pk_mul, sbT, dvT, nmd, ixT, ↓ibT, ltT, ltF, leT, leF, eqT, eqF, nM_ltT, nM_ltF, nM_leT, nM_leF, nM_eqF, nM_eqF', nbT0, nbT1, oI_s, oI_n, natF, natT, nltT, nltF, nleT, nleF, ↓reduceIte, lgc, not_true_eq_false, not_false_eq_true, or_false, false_or, or_true, true_or, and_true, true_and, and_false, false_and, ne_eq, eq_self, or_self, and_self]; done) | ((with_reducible refine wpf ?_ ?_); · simp (disch := first | omega | decide) only [↓neg1, nlit, rI, rL, rI2, rL1, nI_add, pk_mul, sbT, dvT, nmd, ixT, ↓ibT, ltT, ltF, leT, leF, eqT, eqF, nM_ltT, nM_ltF, nM_leT, nM_leF, nM_eqF, nM_eqF', nbT0, nbT1, oI_s, oI_n, natF, natT, nltT, nltF, nleT, nleF, ↓reduceIte, lgc, not_true_eq_false, not_false_eq_true, or_false, false_or, or_true, true_or, and_true, true_and, and_false, false_and, ne_eq, eq_self, or_self, and_self]; done))
      rw [hAr.1 229 _ rfl, d2]
      refine wpt (by simp (disch := first | omega | decide) only [↓neg1, nlit, rI, rL, rI2, rL1, nI_add, pk_mul, sbT, dvT, nmd, ixT, ↓ibT, ltT, ltF, leT, leF, eqT, eqF, nM_ltT, nM_ltF, nM_leT, nM_leF, nM_eqF, nM_eqF', nbT0, nbT1, oI_s, oI_n, natF, natT, nltT, nltF, nleT, nleF, ↓reduceIte, lgc, not_true_eq_false, not_false_eq_true, or_false, false_or, or_true, true_or, and_true, true_and, and_false, false_and, ne_eq, eq_self, or_self, and_self]) ?_
      rw [ix_n (by omega), hAr.2.1 200 _ rfl]
      refine wpc (e363 (by omega) hL2 hOG) (fun y1 g1 => wpc (e362w hn (by decide) (by decide) g1.1) (fun y2 g2 => wpt (by simp (disch := first | omega | decide) only [↓neg1, nlit, rI, rL, rI2, rL1, nI_add, pk_mul, sbT, dvT, nmd, ixT, ↓ibT, ltT, ltF, leT, leF, eqT, eqF, nM_ltT, nM_ltF, nM_leT, nM_leF, nM_eqF, nM_eqF', nbT0, nbT1, oI_s, oI_n, natF, natT, nltT, nltF, nleT, nleF, ↓reduceIte, lgc, not_true_eq_false, not_false_eq_true, or_false, false_or, or_true, true_or, and_true, true_and, and_false, false_and, ne_eq, eq_self, or_self, and_self]) (wpj ?_)))
      have s5 := sx_trans s3 (sx_trans g1.2 g2.2)
      have hAy := AG_pG hA s5
      have h211y : y2.1 211 b = nI (opn m b) := (hAy.1 211 _ rfl).trans m211
      have g21 := g2.1
      rw [wbs.2.2.1] at g21
      refine wpf (by rw [h211y]; simp (disch := first | omega | decide) only [↓neg1, nlit, rI, rL, rI2, rL1, nI_add, pk_mul, sbT, dvT, nmd, ixT, ↓ibT, ltT, ltF, leT, leF, eqT, eqF, nM_ltT, nM_ltF, nM_leT, nM_leF, nM_eqF, nM_eqF', nbT0, nbT1, oI_s, oI_n, natF, natT, nltT, nltF, nleT, nleF, ↓reduceIte, lgc, not_true_eq_false, not_false_eq_true, or_false, false_or, or_true, true_or, and_true, true_and, and_false, false_and, ne_eq, eq_self, or_self, and_self]) (wpt (by simp (disch := first | omega | decide) only [↓neg1, nlit, rI, rL, rI2, rL1, nI_add, pk_mul, sbT, dvT, nmd, ixT, ↓ibT, ltT, ltF, leT, leF, eqT, eqF, nM_ltT, nM_ltF, nM_leT, nM_leF, nM_eqF, nM_eqF', nbT0, nbT1, oI_s, oI_n, natF, natT, nltT, nltF, nleT, nleF, ↓reduceIte, lgc, not_true_eq_false, not_false_eq_true, or_false, false_or, or_true, true_or, and_true, true_and, and_false, false_and, ne_eq, eq_self, or_self, and_self]) (wpt (by simp (disch := first | omega | decide) only [↓neg1, nlit, rI, rL, rI2, rL1, nI_add, pk_mul, sbT, dvT, nmd, ixT, ↓ibT, ltT, ltF, leT, leF, eqT, eqF, nM_ltT, nM_ltF, nM_leT, nM_leF, nM_eqF, nM_eqF', nbT0, nbT1, oI_s, oI_n, natF, natT, nltT, nltF, nleT, nleF, ↓reduceIte, lgc, not_true_eq_false, not_false_eq_true, or_false, false_or, or_true, true_or, and_true, true_and, and_false, false_and, ne_eq, eq_self, or_self, and_self]) ?_))
      rw [hAy.1 214 _ rfl, hAy.1 215 _ rfl, hx.2.2.1, hx.2.2.2.1, show (8 : Int32) * nI (xN m b) + nI (yN m b) = nI (8 * xN m b + yN m b) by rw [show (8 : Int32) = nI 8 from rfl, pk_mul, nI_add]]
      refine wpt (by simp (disch := first | omega | decide) only [↓neg1, nlit, rI, rL, rI2, rL1, nI_add, pk_mul, sbT, dvT, nmd, ixT, ↓ibT, ltT, ltF, leT, leF, eqT, eqF, nM_ltT, nM_ltF, nM_leT, nM_leF, nM_eqF, nM_eqF', nbT0, nbT1, oI_s, oI_n, natF, natT, nltT, nltF, nleT, nleF, ↓reduceIte, lgc, not_true_eq_false, not_false_eq_true, or_false, false_or, or_true, true_or, and_true, true_and, and_false, false_and, ne_eq, eq_self, or_self, and_self]) ?_
      rw [ix_n (by omega), hAy.2.1 204 _ rfl]
      exact wpc (e363 (by omega) (put_ne (Or.inl (put_ne (Or.inl hL2)))) g21) (fun d hd => hk' d ⟨hd.1, sx_trans s5 hd.2⟩)
    · have hT : opT m M b = [sg (m.2 200 (ix (m.1 229 b))), [46], sg (m.2 206 (8 * xN m b + yN m b))] := by
        unfold opT
        rw [if_neg (by omega), if_neg (by omega), if_neg (by omega), if_neg (by omega), if_pos (by omega)]
      rw [hT] at hk'
      have hx := hR.2.2.2.2.1 e
      obtain ⟨dd, d1, d2, d3⟩ := hx.2.2.2.2.2.2.1
      have hcc := (CCS_p hC).1
      have hfy : yN m b < 8 := by
        have := (hC.1.2.2.2.2.1 _ hx.1).1
        have := (hC.1.2.2.2.1 _ hx.1).1
        have := hx.2.1
        omega
      have hx1 := hx.1
      rw [d2, ix_n (by omega)] at hk'
      (try dsimp only); repeat (first | with_reducible refine wpl ?_ | with_reducible refine wpj ?_ | with_reducible refine wpSl ?_ | with_reducible refine wpSr ?_ | with_reducible refine wpS ?_ | ((with_reducible refine wpt ?_ ?_); · simp (disch := first | omega | decide) only [↓neg1, nlit, rI, rL, rI2, rL1, nI_add, pk_mul, sbT, dvT, nmd, ixT, ↓ibT, ltT, ltF, leT, leF, eqT, eqF, nM_ltT, nM_ltF, nM_leT, nM_leF, nM_eqF, nM_eqF', nbT0, nbT1, oI_s, oI_n, natF, natT, nltT, nltF, nleT, nleF, ↓reduceIte, lgc, not_true_eq_false, not_false_eq_true, or_false, false_or, or_true, true_or, and_true, true_and, and_false, false_and, ne_eq, eq_self, or_self, and_self]; done) | ((with_reducible refine wpf ?_ ?_); · simp (disch := first | omega | decide) only [↓neg1, nlit, rI, rL, rI2, rL1, nI_add, pk_mul, sbT, dvT, nmd, ixT, ↓ibT, ltT, ltF, leT, leF, eqT, eqF, nM_ltT, nM_ltF, nM_leT, nM_leF, nM_eqF, nM_eqF', nbT0, nbT1, oI_s, oI_n, natF, natT, nltT, nltF, nleT, nleF, ↓reduceIte, lgc, not_true_eq_false, not_false_eq_true, or_false, false_or, or_true, true_or, and_true, true_and, and_false, false_and, ne_eq, eq_self, or_self, and_self]; done))
      rw [hAr.1 229 _ rfl, d2]
      refine wpt (by simp (disch := first | omega | decide) only [↓neg1, nlit, rI, rL, rI2, rL1, nI_add, pk_mul, sbT, dvT, nmd, ixT, ↓ibT, ltT, ltF, leT, leF, eqT, eqF, nM_ltT, nM_ltF, nM_leT, nM_leF, nM_eqF, nM_eqF', nbT0, nbT1, oI_s, oI_n, natF, natT, nltT, nltF, nleT, nleF, ↓reduceIte, lgc, not_true_eq_false, not_false_eq_true, or_false, false_or, or_true, true_or, and_true, true_and, and_false, false_and, ne_eq, eq_self, or_self, and_self]) ?_
      rw [ix_n (by omega), hAr.2.1 200 _ rfl]
      refine wpc (e363 (by omega) hL2 hOG) (fun y1 g1 => wpc (e362w hn (by decide) (by decide) g1.1) (fun y2 g2 => wpt (by simp (disch := first | omega | decide) only [↓neg1, nlit, rI, rL, rI2, rL1, nI_add, pk_mul, sbT, dvT, nmd, ixT, ↓ibT, ltT, ltF, leT, leF, eqT, eqF, nM_ltT, nM_ltF, nM_leT, nM_leF, nM_eqF, nM_eqF', nbT0, nbT1, oI_s, oI_n, natF, natT, nltT, nltF, nleT, nleF, ↓reduceIte, lgc, not_true_eq_false, not_false_eq_true, or_false, false_or, or_true, true_or, and_true, true_and, and_false, false_and, ne_eq, eq_self, or_self, and_self]) (wpj ?_)))
      have s5 := sx_trans s3 (sx_trans g1.2 g2.2)
      have hAy := AG_pG hA s5
      have h211y : y2.1 211 b = nI (opn m b) := (hAy.1 211 _ rfl).trans m211
      have g21 := g2.1
      rw [wbs.2.2.1] at g21
      refine wpt (by rw [h211y, e]; rfl) (wpt (by simp (disch := first | omega | decide) only [↓neg1, nlit, rI, rL, rI2, rL1, nI_add, pk_mul, sbT, dvT, nmd, ixT, ↓ibT, ltT, ltF, leT, leF, eqT, eqF, nM_ltT, nM_ltF, nM_leT, nM_leF, nM_eqF, nM_eqF', nbT0, nbT1, oI_s, oI_n, natF, natT, nltT, nltF, nleT, nleF, ↓reduceIte, lgc, not_true_eq_false, not_false_eq_true, or_false, false_or, or_true, true_or, and_true, true_and, and_false, false_and, ne_eq, eq_self, or_self, and_self]) (wpt (by simp (disch := first | omega | decide) only [↓neg1, nlit, rI, rL, rI2, rL1, nI_add, pk_mul, sbT, dvT, nmd, ixT, ↓ibT, ltT, ltF, leT, leF, eqT, eqF, nM_ltT, nM_ltF, nM_leT, nM_leF, nM_eqF, nM_eqF', nbT0, nbT1, oI_s, oI_n, natF, natT, nltT, nltF, nleT, nleF, ↓reduceIte, lgc, not_true_eq_false, not_false_eq_true, or_false, false_or, or_true, true_or, and_true, true_and, and_false, false_and, ne_eq, eq_self, or_self, and_self]) ?_))
      rw [hAy.1 214 _ rfl, hAy.1 215 _ rfl, hx.2.2.1, hx.2.2.2.1, show (8 : Int32) * nI (xN m b) + nI (yN m b) = nI (8 * xN m b + yN m b) by rw [show (8 : Int32) = nI 8 from rfl, pk_mul, nI_add]]
      refine wpt (by simp (disch := first | omega | decide) only [↓neg1, nlit, rI, rL, rI2, rL1, nI_add, pk_mul, sbT, dvT, nmd, ixT, ↓ibT, ltT, ltF, leT, leF, eqT, eqF, nM_ltT, nM_ltF, nM_leT, nM_leF, nM_eqF, nM_eqF', nbT0, nbT1, oI_s, oI_n, natF, natT, nltT, nltF, nleT, nleF, ↓reduceIte, lgc, not_true_eq_false, not_false_eq_true, or_false, false_or, or_true, true_or, and_true, true_and, and_false, false_and, ne_eq, eq_self, or_self, and_self]) ?_
      rw [ix_n (by omega), hAy.2.1 206 _ rfl]
      exact wpc (e363 (by omega) (put_ne (Or.inl (put_ne (Or.inl hL2)))) g21) (fun d hd => hk' d ⟨hd.1, sx_trans s5 hd.2⟩)
    · have hT : opT m M b = [] := by
        unfold opT
        rw [if_neg (by omega), if_neg (by omega), if_neg (by omega), if_neg (by omega), if_neg (by omega), if_neg (by omega)]
      rw [hT] at hk'
      (try dsimp only); repeat (first | with_reducible refine wpl ?_ | with_reducible refine wpj ?_ | with_reducible refine wpSl ?_ | with_reducible refine wpSr ?_ | with_reducible refine wpS ?_ | ((with_reducible refine wpt ?_ ?_); · simp (disch := first | omega | decide) only [↓neg1, nlit, rI, rL, rI2, rL1, nI_add, pk_mul, sbT, dvT, nmd, ixT, ↓ibT, ltT, ltF, leT, leF, eqT, eqF, nM_ltT, nM_ltF, nM_leT, nM_leF, nM_eqF, nM_eqF', nbT0, nbT1, oI_s, oI_n, natF, natT, nltT, nltF, nleT, nleF, ↓reduceIte, lgc, not_true_eq_false, not_false_eq_true, or_false, false_or, or_true, true_or, and_true, true_and, and_false, false_and, ne_eq, eq_self, or_self, and_self]; done) | ((with_reducible refine wpf ?_ ?_); · simp (disch := first | omega | decide) only [↓neg1, nlit, rI, rL, rI2, rL1, nI_add, pk_mul, sbT, dvT, nmd, ixT, ↓ibT, ltT, ltF, leT, leF, eqT, eqF, nM_ltT, nM_ltF, nM_leT, nM_leF, nM_eqF, nM_eqF', nbT0, nbT1, oI_s, oI_n, natF, natT, nltT, nltF, nleT, nleF, ↓reduceIte, lgc, not_true_eq_false, not_false_eq_true, or_false, false_or, or_true, true_or, and_true, true_and, and_false, false_and, ne_eq, eq_self, or_self, and_self]; done))
      exact hk' r ⟨hOG, s3⟩
    · have hT : opT m M b = [] := by
        unfold opT
        rw [if_neg (by omega), if_neg (by omega), if_neg (by omega), if_neg (by omega), if_neg (by omega), if_neg (by omega)]
      rw [hT] at hk'
      (try dsimp only); repeat (first | with_reducible refine wpl ?_ | with_reducible refine wpj ?_ | with_reducible refine wpSl ?_ | with_reducible refine wpSr ?_ | with_reducible refine wpS ?_ | ((with_reducible refine wpt ?_ ?_); · simp (disch := first | omega | decide) only [↓neg1, nlit, rI, rL, rI2, rL1, nI_add, pk_mul, sbT, dvT, nmd, ixT, ↓ibT, ltT, ltF, leT, leF, eqT, eqF, nM_ltT, nM_ltF, nM_leT, nM_leF, nM_eqF, nM_eqF', nbT0, nbT1, oI_s, oI_n, natF, natT, nltT, nltF, nleT, nleF, ↓reduceIte, lgc, not_true_eq_false, not_false_eq_true, or_false, false_or, or_true, true_or, and_true, true_and, and_false, false_and, ne_eq, eq_self, or_self, and_self]; done) | ((with_reducible refine wpf ?_ ?_); · simp (disch := first | omega | decide) only [↓neg1, nlit, rI, rL, rI2, rL1, nI_add, pk_mul, sbT, dvT, nmd, ixT, ↓ibT, ltT, ltF, leT, leF, eqT, eqF, nM_ltT, nM_ltF, nM_leT, nM_leF, nM_eqF, nM_eqF', nbT0, nbT1, oI_s, oI_n, natF, natT, nltT, nltF, nleT, nleF, ↓reduceIte, lgc, not_true_eq_false, not_false_eq_true, or_false, false_or, or_true, true_or, and_true, true_and, and_false, false_and, ne_eq, eq_self, or_self, and_self]; done))
      exact hk' r ⟨hOG, s3⟩
    · have hT : opT m M b = [] := by
        unfold opT
        rw [if_neg (by omega), if_neg (by omega), if_neg (by omega), if_neg (by omega), if_neg (by omega), if_neg (by omega)]
      rw [hT] at hk'
      (try dsimp only); repeat (first | with_reducible refine wpl ?_ | with_reducible refine wpj ?_ | with_reducible refine wpSl ?_ | with_reducible refine wpSr ?_ | with_reducible refine wpS ?_ | ((with_reducible refine wpt ?_ ?_); · simp (disch := first | omega | decide) only [↓neg1, nlit, rI, rL, rI2, rL1, nI_add, pk_mul, sbT, dvT, nmd, ixT, ↓ibT, ltT, ltF, leT, leF, eqT, eqF, nM_ltT, nM_ltF, nM_leT, nM_leF, nM_eqF, nM_eqF', nbT0, nbT1, oI_s, oI_n, natF, natT, nltT, nltF, nleT, nleF, ↓reduceIte, lgc, not_true_eq_false, not_false_eq_true, or_false, false_or, or_true, true_or, and_true, true_and, and_false, false_and, ne_eq, eq_self, or_self, and_self]; done) | ((with_reducible refine wpf ?_ ?_); · simp (disch := first | omega | decide) only [↓neg1, nlit, rI, rL, rI2, rL1, nI_add, pk_mul, sbT, dvT, nmd, ixT, ↓ibT, ltT, ltF, leT, leF, eqT, eqF, nM_ltT, nM_ltF, nM_leT, nM_leF, nM_eqF, nM_eqF', nbT0, nbT1, oI_s, oI_n, natF, natT, nltT, nltF, nleT, nleF, ↓reduceIte, lgc, not_true_eq_false, not_false_eq_true, or_false, false_or, or_true, true_or, and_true, true_and, and_false, false_and, ne_eq, eq_self, or_self, and_self]; done))
      exact hk' r ⟨hOG, s3⟩
    · have hT : opT m M b = [] := by
        unfold opT
        rw [if_neg (by omega), if_neg (by omega), if_neg (by omega), if_neg (by omega), if_neg (by omega), if_neg (by omega)]
      rw [hT] at hk'
      (try dsimp only); repeat (first | with_reducible refine wpl ?_ | with_reducible refine wpj ?_ | with_reducible refine wpSl ?_ | with_reducible refine wpSr ?_ | with_reducible refine wpS ?_ | ((with_reducible refine wpt ?_ ?_); · simp (disch := first | omega | decide) only [↓neg1, nlit, rI, rL, rI2, rL1, nI_add, pk_mul, sbT, dvT, nmd, ixT, ↓ibT, ltT, ltF, leT, leF, eqT, eqF, nM_ltT, nM_ltF, nM_leT, nM_leF, nM_eqF, nM_eqF', nbT0, nbT1, oI_s, oI_n, natF, natT, nltT, nltF, nleT, nleF, ↓reduceIte, lgc, not_true_eq_false, not_false_eq_true, or_false, false_or, or_true, true_or, and_true, true_and, and_false, false_and, ne_eq, eq_self, or_self, and_self]; done) | ((with_reducible refine wpf ?_ ?_); · simp (disch := first | omega | decide) only [↓neg1, nlit, rI, rL, rI2, rL1, nI_add, pk_mul, sbT, dvT, nmd, ixT, ↓ibT, ltT, ltF, leT, leF, eqT, eqF, nM_ltT, nM_ltF, nM_leT, nM_leF, nM_eqF, nM_eqF', nbT0, nbT1, oI_s, oI_n, natF, natT, nltT, nltF, nleT, nleF, ↓reduceIte, lgc, not_true_eq_false, not_false_eq_true, or_false, false_or, or_true, true_or, and_true, true_and, and_false, false_and, ne_eq, eq_self, or_self, and_self]; done))
      exact hk' r ⟨hOG, s3⟩
    · have hT : opT m M b = [] := by
        unfold opT
        rw [if_neg (by omega), if_neg (by omega), if_neg (by omega), if_neg (by omega), if_neg (by omega), if_neg (by omega)]
      rw [hT] at hk'
      (try dsimp only); repeat (first | with_reducible refine wpl ?_ | with_reducible refine wpj ?_ | with_reducible refine wpSl ?_ | with_reducible refine wpSr ?_ | with_reducible refine wpS ?_ | ((with_reducible refine wpt ?_ ?_); · simp (disch := first | omega | decide) only [↓neg1, nlit, rI, rL, rI2, rL1, nI_add, pk_mul, sbT, dvT, nmd, ixT, ↓ibT, ltT, ltF, leT, leF, eqT, eqF, nM_ltT, nM_ltF, nM_leT, nM_leF, nM_eqF, nM_eqF', nbT0, nbT1, oI_s, oI_n, natF, natT, nltT, nltF, nleT, nleF, ↓reduceIte, lgc, not_true_eq_false, not_false_eq_true, or_false, false_or, or_true, true_or, and_true, true_and, and_false, false_and, ne_eq, eq_self, or_self, and_self]; done) | ((with_reducible refine wpf ?_ ?_); · simp (disch := first | omega | decide) only [↓neg1, nlit, rI, rL, rI2, rL1, nI_add, pk_mul, sbT, dvT, nmd, ixT, ↓ibT, ltT, ltF, leT, leF, eqT, eqF, nM_ltT, nM_ltF, nM_leT, nM_leF, nM_eqF, nM_eqF', nbT0, nbT1, oI_s, oI_n, natF, natT, nltT, nltF, nleT, nleF, ↓reduceIte, lgc, not_true_eq_false, not_false_eq_true, or_false, false_or, or_true, true_or, and_true, true_and, and_false, false_and, ne_eq, eq_self, or_self, and_self]; done))
      exact hk' r ⟨hOG, s3⟩
    · have hT : opT m M b = [] := by
        unfold opT
        rw [if_neg (by omega), if_neg (by omega), if_neg (by omega), if_neg (by omega), if_neg (by omega), if_neg (by omega)]
      rw [hT] at hk'
      (try dsimp only); repeat (first | with_reducible refine wpl ?_ | with_reducible refine wpj ?_ | with_reducible refine wpSl ?_ | with_reducible refine wpSr ?_ | with_reducible refine wpS ?_ | ((with_reducible refine wpt ?_ ?_); · simp (disch := first | omega | decide) only [↓neg1, nlit, rI, rL, rI2, rL1, nI_add, pk_mul, sbT, dvT, nmd, ixT, ↓ibT, ltT, ltF, leT, leF, eqT, eqF, nM_ltT, nM_ltF, nM_leT, nM_leF, nM_eqF, nM_eqF', nbT0, nbT1, oI_s, oI_n, natF, natT, nltT, nltF, nleT, nleF, ↓reduceIte, lgc, not_true_eq_false, not_false_eq_true, or_false, false_or, or_true, true_or, and_true, true_and, and_false, false_and, ne_eq, eq_self, or_self, and_self]; done) | ((with_reducible refine wpf ?_ ?_); · simp (disch := first | omega | decide) only [↓neg1, nlit, rI, rL, rI2, rL1, nI_add, pk_mul, sbT, dvT, nmd, ixT, ↓ibT, ltT, ltF, leT, leF, eqT, eqF, nM_ltT, nM_ltF, nM_leT, nM_leF, nM_eqF, nM_eqF', nbT0, nbT1, oI_s, oI_n, natF, natT, nltT, nltF, nleT, nleF, ↓reduceIte, lgc, not_true_eq_false, not_false_eq_true, or_false, false_or, or_true, true_or, and_true, true_and, and_false, false_and, ne_eq, eq_self, or_self, and_self]; done))
      exact hk' r ⟨hOG, s3⟩
    · have hT : opT m M b = [] := by
        unfold opT
        rw [if_neg (by omega), if_neg (by omega), if_neg (by omega), if_neg (by omega), if_neg (by omega), if_neg (by omega)]
      rw [hT] at hk'
      (try dsimp only); repeat (first | with_reducible refine wpl ?_ | with_reducible refine wpj ?_ | with_reducible refine wpSl ?_ | with_reducible refine wpSr ?_ | with_reducible refine wpS ?_ | ((with_reducible refine wpt ?_ ?_); · simp (disch := first | omega | decide) only [↓neg1, nlit, rI, rL, rI2, rL1, nI_add, pk_mul, sbT, dvT, nmd, ixT, ↓ibT, ltT, ltF, leT, leF, eqT, eqF, nM_ltT, nM_ltF, nM_leT, nM_leF, nM_eqF, nM_eqF', nbT0, nbT1, oI_s, oI_n, natF, natT, nltT, nltF, nleT, nleF, ↓reduceIte, lgc, not_true_eq_false, not_false_eq_true, or_false, false_or, or_true, true_or, and_true, true_and, and_false, false_and, ne_eq, eq_self, or_self, and_self]; done) | ((with_reducible refine wpf ?_ ?_); · simp (disch := first | omega | decide) only [↓neg1, nlit, rI, rL, rI2, rL1, nI_add, pk_mul, sbT, dvT, nmd, ixT, ↓ibT, ltT, ltF, leT, leF, eqT, eqF, nM_ltT, nM_ltF, nM_leT, nM_leF, nM_eqF, nM_eqF', nbT0, nbT1, oI_s, oI_n, natF, natT, nltT, nltF, nleT, nleF, ↓reduceIte, lgc, not_true_eq_false, not_false_eq_true, or_false, false_or, or_true, true_or, and_true, true_and, and_false, false_and, ne_eq, eq_self, or_self, and_self]; done))
      exact hk' r ⟨hOG, s3⟩
    · have hT : opT m M b = [] := by
        unfold opT
        rw [if_neg (by omega), if_neg (by omega), if_neg (by omega), if_neg (by omega), if_neg (by omega), if_neg (by omega)]
      rw [hT] at hk'
      (try dsimp only); repeat (first | with_reducible refine wpl ?_ | with_reducible refine wpj ?_ | with_reducible refine wpSl ?_ | with_reducible refine wpSr ?_ | with_reducible refine wpS ?_ | ((with_reducible refine wpt ?_ ?_); · simp (disch := first | omega | decide) only [↓neg1, nlit, rI, rL, rI2, rL1, nI_add, pk_mul, sbT, dvT, nmd, ixT, ↓ibT, ltT, ltF, leT, leF, eqT, eqF, nM_ltT, nM_ltF, nM_leT, nM_leF, nM_eqF, nM_eqF', nbT0, nbT1, oI_s, oI_n, natF, natT, nltT, nltF, nleT, nleF, ↓reduceIte, lgc, not_true_eq_false, not_false_eq_true, or_false, false_or, or_true, true_or, and_true, true_and, and_false, false_and, ne_eq, eq_self, or_self, and_self]; done) | ((with_reducible refine wpf ?_ ?_); · simp (disch := first | omega | decide) only [↓neg1, nlit, rI, rL, rI2, rL1, nI_add, pk_mul, sbT, dvT, nmd, ixT, ↓ibT, ltT, ltF, leT, leF, eqT, eqF, nM_ltT, nM_ltF, nM_leT, nM_leF, nM_eqF, nM_eqF', nbT0, nbT1, oI_s, oI_n, natF, natT, nltT, nltF, nleT, nleF, ↓reduceIte, lgc, not_true_eq_false, not_false_eq_true, or_false, false_or, or_true, true_or, and_true, true_and, and_false, false_and, ne_eq, eq_self, or_self, and_self]; done))
      exact hk' r ⟨hOG, s3⟩
    · have hT : opT m M b = [sg (m.2 181 (xN m b)), [46], sg (m.2 183 (12 * xN m b + yN m b))] := by
        unfold opT
        rw [if_neg (by omega), if_neg (by omega), if_neg (by omega), if_neg (by omega), if_neg (by omega), if_pos (by omega)]
      rw [hT] at hk'
      have hx := hR.2.2.2.2.2.1 (by omega)
      have ho4 := hO.1
      have hel := OOS_el hO hx.1
      (try dsimp only); repeat (first | with_reducible refine wpl ?_ | with_reducible refine wpj ?_ | with_reducible refine wpSl ?_ | with_reducible refine wpSr ?_ | with_reducible refine wpS ?_ | ((with_reducible refine wpt ?_ ?_); · simp (disch := first | omega | decide) only [↓neg1, nlit, rI, rL, rI2, rL1, nI_add, pk_mul, sbT, dvT, nmd, ixT, ↓ibT, ltT, ltF, leT, leF, eqT, eqF, nM_ltT, nM_ltF, nM_leT, nM_leF, nM_eqF, nM_eqF', nbT0, nbT1, oI_s, oI_n, natF, natT, nltT, nltF, nleT, nleF, ↓reduceIte, lgc, not_true_eq_false, not_false_eq_true, or_false, false_or, or_true, true_or, and_true, true_and, and_false, false_and, ne_eq, eq_self, or_self, and_self]; done) | ((with_reducible refine wpf ?_ ?_); · simp (disch := first | omega | decide) only [↓neg1, nlit, rI, rL, rI2, rL1, nI_add, pk_mul, sbT, dvT, nmd, ixT, ↓ibT, ltT, ltF, leT, leF, eqT, eqF, nM_ltT, nM_ltF, nM_leT, nM_leF, nM_eqF, nM_eqF', nbT0, nbT1, oI_s, oI_n, natF, natT, nltT, nltF, nleT, nleF, ↓reduceIte, lgc, not_true_eq_false, not_false_eq_true, or_false, false_or, or_true, true_or, and_true, true_and, and_false, false_and, ne_eq, eq_self, or_self, and_self]; done))
      rw [hAr.1 214 _ rfl, hAr.1 215 _ rfl, hx.2.2.1, hx.2.2.2.1]
      have hx1 := hx.1
      have hx2 := hx.2.1
      exact wpc (e448 hn hAr (by omega) (by omega) hL2 hOG) (fun d hd => hk' d ⟨hd.1, sx_trans s3 hd.2⟩)
    · have hT : opT m M b = [sg (m.2 181 (xN m b)), [46], sg (m.2 183 (12 * xN m b + yN m b))] := by
        unfold opT
        rw [if_neg (by omega), if_neg (by omega), if_neg (by omega), if_neg (by omega), if_neg (by omega), if_pos (by omega)]
      rw [hT] at hk'
      have hx := hR.2.2.2.2.2.1 (by omega)
      have ho4 := hO.1
      have hel := OOS_el hO hx.1
      (try dsimp only); repeat (first | with_reducible refine wpl ?_ | with_reducible refine wpj ?_ | with_reducible refine wpSl ?_ | with_reducible refine wpSr ?_ | with_reducible refine wpS ?_ | ((with_reducible refine wpt ?_ ?_); · simp (disch := first | omega | decide) only [↓neg1, nlit, rI, rL, rI2, rL1, nI_add, pk_mul, sbT, dvT, nmd, ixT, ↓ibT, ltT, ltF, leT, leF, eqT, eqF, nM_ltT, nM_ltF, nM_leT, nM_leF, nM_eqF, nM_eqF', nbT0, nbT1, oI_s, oI_n, natF, natT, nltT, nltF, nleT, nleF, ↓reduceIte, lgc, not_true_eq_false, not_false_eq_true, or_false, false_or, or_true, true_or, and_true, true_and, and_false, false_and, ne_eq, eq_self, or_self, and_self]; done) | ((with_reducible refine wpf ?_ ?_); · simp (disch := first | omega | decide) only [↓neg1, nlit, rI, rL, rI2, rL1, nI_add, pk_mul, sbT, dvT, nmd, ixT, ↓ibT, ltT, ltF, leT, leF, eqT, eqF, nM_ltT, nM_ltF, nM_leT, nM_leF, nM_eqF, nM_eqF', nbT0, nbT1, oI_s, oI_n, natF, natT, nltT, nltF, nleT, nleF, ↓reduceIte, lgc, not_true_eq_false, not_false_eq_true, or_false, false_or, or_true, true_or, and_true, true_and, and_false, false_and, ne_eq, eq_self, or_self, and_self]; done))
      rw [hAr.1 214 _ rfl, hAr.1 215 _ rfl, hx.2.2.1, hx.2.2.2.1]
      have hx1 := hx.1
      have hx2 := hx.2.1
      exact wpc (e448 hn hAr (by omega) (by omega) hL2 hOG) (fun d hd => hk' d ⟨hd.1, sx_trans s3 hd.2⟩)
