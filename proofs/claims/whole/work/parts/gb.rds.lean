/-! rounds -/
section RDSS
variable {n k M cc mc Lb S V F tot : Nat} {c d m u v w : cS} {sz : Nat → Nat} {X : Nat → Nat → Nat} {Y : Nat → Nat}
theorem wI_g : ∀ i, wI (gM m u) M i = wI m M i
  | 0 => rfl
  | i + 1 => by
    show wI (gM m u) M i + wnt (gM m u) (40 * M + i) = wI m M i + wnt m (40 * M + i)
    rw [wI_g i]
    rfl
theorem wM_g : ∀ N, wM (gM m u) N = wM m N
  | 0 => rfl
  | N + 1 => by
    show wM (gM m u) N + (if mtb (gM m u) N then wI (gM m u) N (acn (gM m u) N) else 0) = wM m N + (if mtb m N then wI m N (acn m N) else 0)
    rw [wM_g N, wI_g]
    rfl
theorem WB_g (h : WB m) : WB (gM m u) := by
  unfold WB at h ⊢
  rw [wM_g]
  exact h
theorem TLS_sx {r : Nat → Nat → Bool} (h : TLS c m) (hs : sx r c d) (h1 : r 146 8 = false) (h2 : ∀ i, r 147 i = false) : TLS d m := by
  refine ⟨by rw [hs.1 _ _ h1]; exact h.1, fun z p s o hp hs' ho => ?_⟩
  rw [hs.1 _ _ h1] at z
  rw [hs.1 _ _ (h2 _)]
  exact h.2 z p s o hp hs' ho
theorem TLS_1 (h : d.1 146 8 = nI 1) : TLS d m := by
  refine ⟨by rw [h]; exact Or.inr rfl, fun z => ?_⟩
  rw [h] at z
  exact absurd z (by decide)
theorem sumN_at {g h : Nat → Nat} {p : Nat} : ∀ k, p < k → (∀ j, j ≠ p → g j = h j) → sumN g k + h p = sumN h k + g p
  | 0, hp, _ => absurd hp (Nat.not_lt_zero _)
  | k + 1, hp, hj => by
    show sumN g k + g k + h p = sumN h k + h k + g p
    by_cases e : p = k
    · rw [e, sumN_cg k (fun j hj' => hj j (by omega))]
      omega
    · have := sumN_at k (by omega) hj
      rw [hj k (fun z => e z.symm)]
      omega
/-- both have a PROGRAM; CLASS rows have S MARKS, all others Lb at most -/
def RDI (cc mc Lb S : Nat) (m c u : cS) : Prop := m.1 174 14 = nI 1 ∧ AG m u ∧ PG c m ∧ WB m ∧ CN m ∧ TLS c m ∧ FD m c u ∧ ccn m = cc ∧ mcn m = mc ∧ ∃ V F sz X Y, ALO c V F sz X Y ∧ sumN (fun k => sz (100 * k)) cc = S ∧ V ≤ Lb + S
theorem RDI_cu {r q : Nat → Nat → Bool} (h : RDI cc mc Lb S m c u) (sc : sx r c d) (hr : nC r) (r1 : r 146 8 = false) (r2 : ∀ i, r 147 i = false) (r3 : ∀ i, r 148 i = false) (su : sx q u v) (hq : nP q) (q1 : ∀ i, q 235 i = false) : RDI cc mc Lb S m d v := by
  obtain ⟨h1, h2, h3, h4, h5, h6, h7, h8, h9, V, F, sz, X, Y, hA, hS, hV⟩ := h
  exact ⟨h1, AG_sx h2 su hq, PG_CA (CA_sx sc hr) h3, h4, h5, TLS_sx h6 sc r1 r2, FD_2 h7 sc su r3 q1, h8, h9, V, F, sz, X, Y, ALO_cg hA (fun A l z => sc.1 _ _ (hr.1 A l (by omega) (by omega) (by omega))), hS, hV⟩
theorem RDI_S (h : RDI cc mc Lb S m c u) : S ≤ 240 ∧ cc ≤ 12 ∧ mc ≤ 6 := by
  obtain ⟨-, -, h3, -, -, -, -, h8, h9, V, F, sz, X, Y, hA, hS, -⟩ := h
  have h12 := (CCS_p h3.1.2.2.1).1
  have h6 := h3.2.1.1
  have := sumN_le (g := fun k => sz (100 * k)) (B := 20) cc (fun j hj => by
    have hR := h3.1.2.2.2 _ 0 (isP_C (k := j) (by omega))
    have := (rwL_of hA (by omega) hR.1).1
    have := hR.1.1
    show sz (100 * j) ≤ 20
    omega)
  refine ⟨?_, by omega, by omega⟩
  have h20 : 20 * cc ≤ 240 := by omega
  omega
def qRnC (A l : Nat) : Bool := decide ((A = 133 ∧ 11 ≤ l ∧ l ≤ 13) ∨ (134 ≤ A ∧ A ≤ 144) ∨ (A = 146 ∧ l = 8))
def qRnR (A _l : Nat) : Bool := decide (222 ≤ A ∧ A ≤ 228)
theorem bI_or {a b : Bool} : bI a ||| bI b = bI (a || b) := by
  cases a <;> cases b <;> decide
theorem rr_no {q r f z : Nat} {fl : Int32} (hn : 1 ≤ n) (hq : q < 1219) (hf : f < 72) (hz : z ≤ 20) (h222 : u.1 222 q = nI z) (h234 : u.1 234 f = nI 0) : whl (rrL n (nI q) (nI r) (nI f)) n (fl, 0, u) = some (fl, u) := by
  obtain ⟨t, rfl⟩ : ∃ t, n = t + 1 := ⟨n - 1, by omega⟩
  refine whl_out ?_
  unfold rrL
  dsimp only
  rw [show ix (nI q) = q from ix_n (by omega), h222, show ix (nI f) = f from ix_n (by omega), h234]
  refine eq_wp (wpt (ib_n hq (by decide)) ?_)
  by_cases e : z = 0
  · exact wpt (by rw [e]; decide) rfl
  · exact wpf (show ¬ nI z ≤ nI 0 from nI_ge (by omega) (by omega)) (wpt (ib_n hf (by decide)) (wpt rfl rfl))
set_option maxHeartbeats 2000000 in
/-- one MAKER at one CLASS -/
theorem rd_st {B : Nat} {f bt : Bool} (hn : 10000 ≤ n) (hL : Lb + 260 ≤ 4096) (h : RDI cc mc Lb S m c u) (hM : M < mc) (hk : k < cc) (hB : B < 4096) (h149 : c.1 149 M = nI B) (hbt : B.testBit k = bt) (h234 : u.1 234 (12 * M + k) = bI bt) : ∃ d v m' S', p2I n (nI M) (bI f, nI k, c) = some (.inl (bI (f || decide (S < S')), nI (k + 1), d)) ∧ r2I n (nI M) (bI f, nI k, u) = some (.inl (bI (f || decide (S < S')), nI (k + 1), v)) ∧ RDI cc mc Lb S' m' d v ∧ S ≤ S' ∧ (S' = S → v = u) ∧ sx qRnC c d ∧ sx qRnR u v := by
  obtain ⟨hS, hcc, hmc⟩ := RDI_S h
  obtain ⟨h1, h2, h3, h4, h5, h6, h7, h8, h9, V, F, sz, X, Y, hA, hsum, hV⟩ := id h
  have hi6 : ib (nI M) 6 := ib_n (by omega) (by decide)
  have eM : ix (nI M) = M := ix_n (by omega)
  have c10 : c.1 7 10 = nI cc := by
    rw [← h8]
    exact h3.1.2.2.1.1.2.1
  have u37 : u.1 174 37 = nI cc := by
    rw [← h8]
    exact (h2.2.2.1 37 rfl).trans h3.1.2.2.1.1.2.2.1
  have e100 : (100 : Int32) * nI k = nI (100 * k) := by rw [show (100 : Int32) = nI 100 from rfl, pk_mul]
  have e12 : (12 : Int32) * nI M + nI k = nI (12 * M + k) := by rw [show (12 : Int32) = nI 12 from rfl, pk_mul, nI_add]
  have e1212 : (1212 : Int32) + nI M = nI (1212 + M) := by rw [show (1212 : Int32) = nI 1212 from rfl, nI_add]
  have nk : ¬ nI cc ≤ nI k := by simp (disch := first | omega | decide) only [↓neg1, nlit, rI, rL, rI2, rL1, nI_add, pk_mul, sbT, dvT, nmd, ixT, ↓ibT, ltT, ltF, leT, leF, eqT, eqF, nM_ltT, nM_ltF, nM_leT, nM_leF, nM_eqF, nM_eqF', nbT0, nbT1, oI_s, oI_n, natF, natT, nltT, nltF, nleT, nleF, ↓reduceIte, lgc, not_true_eq_false, not_false_eq_true, or_false, false_or, or_true, true_or, and_true, true_and, and_false, false_and, ne_eq, eq_self, or_self, and_self]
  cases bt with
  | false =>
    have hRQ : RQ c m (1212 + M) := (h3.2.1.2.2.2 M (by omega)).2.2
    have h222 : u.1 222 (1212 + M) = nI (mz m (1212 + M)) := (h2.2.2.2.1 _ (by omega)).trans hRQ.1.2.1
    have hno := rr_no (n := n) (fl := bI f) (r := 100 * k) (f := 12 * M + k) (by omega) (show 1212 + M < 1219 by omega) (by omega) hRQ.1.1 h222 h234
    have ef : (f || decide (S < S)) = f := by rw [decide_eq_false (Nat.lt_irrefl S), Bool.or_false]
    refine ⟨c, u, m, S, ?_, ?_, h, by omega, fun _ => rfl, sx_rfl, sx_rfl⟩
    · unfold p2I
      dsimp only
      rw [c10, eM, h149, ef]
      refine eq_wp (wpf nk (wpt hi6 (wpj (wpt ((bit_n (by omega) (by omega)).mpr hbt) (wpl ?_)))))
      rw [nI_1]
      rfl
    · unfold r2I
      dsimp only
      rw [u37, e100, e12, e1212, ef]
      refine eq_wp (wpf nk (wpl (wpe hno (wpl ?_))))
      rw [nI_1]
      rfl
  | true =>
    obtain ⟨d, v, z, F', X', Y', a1, a2, a3, a4, a5, a6, a7, a8, a9, a10, a11⟩ := am_go (n := n) (fl := bI f) (M := M) (k := k) hn h3 h2 hA (by omega) (by omega) (by omega) h234
    have hsr : sumN (fun j => upZ sz (100 * k) z (100 * j)) cc = S + (z - sz (100 * k)) := by
      have := sumN_at (g := fun j => upZ sz (100 * k) z (100 * j)) (h := fun j => sz (100 * j)) (p := k) cc hk (fun j hj => by
        unfold upZ
        rw [if_neg (by omega)])
      have e1 : upZ sz (100 * k) z (100 * k) = z := by
        unfold upZ
        rw [if_pos rfl]
      rw [e1, hsum] at this
      omega
    have ed : decide (S < S + (z - sz (100 * k))) = decide (sz (100 * k) < z) := by
      by_cases e : sz (100 * k) < z
      · rw [decide_eq_true e, decide_eq_true (by omega)]
      · rw [decide_eq_false e, decide_eq_false (by omega)]
    refine ⟨d, v, gM m v, S + (z - sz (100 * k)), ?_, ?_, ⟨h1, a7, a6, WB_g h4, h5, TLS_1 a8, ?_, h8, h9, _, F', _, X', Y', a5, hsr, by omega⟩, by omega, fun y => a11 (by omega), sx_wide a9 (fun A l y => ?_), sx_wide a10 (fun A l y => ?_)⟩
    · unfold p2I
      dsimp only
      rw [c10, eM, h149, e100, e1212, ed]
      refine eq_wp (wpf nk (wpt hi6 (wpj (wpf (fun y => ?_) (wpe a1 (wpl (wpl ?_)))))))
      · have := (bit_n (by omega) (by omega)).mp y
        rw [hbt] at this
        cases this
      · rw [nI_1, bI_or]
        rfl
    · unfold r2I
      dsimp only
      rw [u37, e100, e12, e1212, ed]
      refine eq_wp (wpf nk (wpl (wpe a2 (wpl ?_))))
      rw [nI_1]
      dsimp only
      by_cases e : sz (100 * k) < z
      · rw [if_neg (by omega), decide_eq_true e, Bool.or_true]
        rfl
      · rw [if_pos (by omega), decide_eq_false e, Bool.or_false]
        rfl
    · exact FD_2 h7 a9 a10 (fun i => decide_eq_false (by omega)) (fun i => decide_eq_false (by omega))
    · have := of_decide_eq_false y
      exact decide_eq_false (by omega)
    · have := of_decide_eq_false y
      exact decide_eq_false (by omega)
theorem dec_or {f : Bool} {a b e : Nat} (h1 : a ≤ b) (h2 : b ≤ e) : ((f || decide (a < b)) || decide (b < e)) = (f || decide (a < e)) := by
  cases f with
  | true => rfl
  | false =>
    rw [Bool.false_or, Bool.false_or]
    by_cases e1 : a < b
    · rw [decide_eq_true e1, Bool.true_or, decide_eq_true (by omega)]
    · rw [decide_eq_false e1, Bool.false_or]
      by_cases e2 : b < e
      · rw [decide_eq_true e2, decide_eq_true (by omega)]
      · rw [decide_eq_false e2, decide_eq_false (by omega)]
/-- one MAKER at all CLASSES -/
theorem p2I_lp {B : Nat} {bt : Nat → Bool} (hn : 10000 ≤ n) (hL : Lb + 260 ≤ 4096) (hM : M < mc) (hB : B < 4096) (hbt : ∀ k, k < cc → B.testBit k = bt k) : ∀ (rr k t t2 S : Nat) (f : Bool) (m c u : cS), k + rr = cc → rr < t → rr < t2 → RDI cc mc Lb S m c u → c.1 149 M = nI B → (∀ k, k < cc → u.1 234 (12 * M + k) = bI (bt k)) → ∃ d v m' S', whl (p2I n (nI M)) t (bI f, nI k, c) = some (bI (f || decide (S < S')), d) ∧ whl (r2I n (nI M)) t2 (bI f, nI k, u) = some (bI (f || decide (S < S')), v) ∧ RDI cc mc Lb S' m' d v ∧ S ≤ S' ∧ (S' = S → v = u) ∧ sx qRnC c d ∧ sx qRnR u v
  | 0, k, t, t2, S, f, m, c, u, hk, ht, ht2, h, h149, h234 => by
    obtain ⟨t', rfl⟩ : ∃ t', t = t' + 1 := ⟨t - 1, by omega⟩
    obtain ⟨t2', rfl⟩ : ∃ t2', t2 = t2' + 1 := ⟨t2 - 1, by omega⟩
    obtain ⟨-, hcc, -⟩ := RDI_S h
    obtain ⟨h1, h2, h3, -, -, -, -, h8, -⟩ := id h
    have c10 : c.1 7 10 = nI cc := by
      rw [← h8]
      exact h3.1.2.2.1.1.2.1
    have u37 : u.1 174 37 = nI cc := by
      rw [← h8]
      exact (h2.2.2.1 37 rfl).trans h3.1.2.2.1.1.2.2.1
    have ef : (f || decide (S < S)) = f := by rw [decide_eq_false (Nat.lt_irrefl S), Bool.or_false]
    have ek : nI cc ≤ nI k := nI_le (by omega) (by omega)
    refine ⟨c, u, m, S, whl_out ?_, whl_out ?_, h, by omega, fun _ => rfl, sx_rfl, sx_rfl⟩
    · unfold p2I
      dsimp only
      rw [c10, ef]
      exact eq_wp (wpt ek rfl)
    · unfold r2I
      dsimp only
      rw [u37, ef]
      exact eq_wp (wpt ek rfl)
  | rr + 1, k, t, t2, S, f, m, c, u, hk, ht, ht2, h, h149, h234 => by
    obtain ⟨t', rfl⟩ : ∃ t', t = t' + 1 := ⟨t - 1, by omega⟩
    obtain ⟨t2', rfl⟩ : ∃ t2', t2 = t2' + 1 := ⟨t2 - 1, by omega⟩
    obtain ⟨d1, v1, m1, S1, a1, a2, a3, a4, a5, a6, a7⟩ := rd_st (f := f) (bt := bt k) hn hL h hM (show k < cc by omega) hB h149 (hbt k (by omega)) (h234 k (by omega))
    obtain ⟨d, v, m', S', b1, b2, b3, b4, b5, b6, b7⟩ := p2I_lp hn hL hM hB hbt rr (k + 1) t' t2' S1 (f || decide (S < S1)) m1 d1 v1 (by omega) (by omega) (by omega) a3 (by rw [a6.1 _ _ (decide_eq_false (by omega))]; exact h149) (fun j hj => by rw [a7.1 _ _ (decide_eq_false (by omega))]; exact h234 j hj)
    rw [dec_or a4 b4] at b1 b2
    exact ⟨d, v, m', S', (whl_in a1).trans b1, (whl_in a2).trans b2, b3, by omega, fun z => (b5 (by omega)).trans (a5 (by omega)), sx_trans a6 b6, sx_trans a7 b7⟩
/-- all MAKERS -/
theorem p2O_lp {bt : Nat → Nat → Bool} (hn : 10000 ≤ n) (hL : Lb + 260 ≤ 4096) : ∀ (rr M t t2 S : Nat) (f : Bool) (m c u : cS), M + rr = mc → rr < t → rr < t2 → RDI cc mc Lb S m c u → (∀ M, M < mc → ∃ B, B < 4096 ∧ c.1 149 M = nI B ∧ ∀ k, k < cc → B.testBit k = bt M k) → (∀ M k, M < mc → k < cc → u.1 234 (12 * M + k) = bI (bt M k)) → ∃ d v m' S', whl (p2O n) t (bI f, nI M, c) = some (bI (f || decide (S < S')), d) ∧ whl (r2O n) t2 (bI f, nI M, u) = some (bI (f || decide (S < S')), v) ∧ RDI cc mc Lb S' m' d v ∧ S ≤ S' ∧ (S' = S → v = u) ∧ sx qRnC c d ∧ sx qRnR u v
  | 0, M, t, t2, S, f, m, c, u, hk, ht, ht2, h, h149, h234 => by
    obtain ⟨t', rfl⟩ : ∃ t', t = t' + 1 := ⟨t - 1, by omega⟩
    obtain ⟨t2', rfl⟩ : ∃ t2', t2 = t2' + 1 := ⟨t2 - 1, by omega⟩
    obtain ⟨-, -, hmc⟩ := RDI_S h
    obtain ⟨h1, h2, h3, -, -, -, -, -, h9, -⟩ := id h
    have c7 : c.1 7 7 = nI mc := by
      rw [← h9]
      exact h3.2.1.2.1
    have u34 : u.1 174 34 = nI mc := by
      rw [← h9]
      exact (h2.2.2.1 34 rfl).trans h3.2.1.2.2.1
    have ef : (f || decide (S < S)) = f := by rw [decide_eq_false (Nat.lt_irrefl S), Bool.or_false]
    have ek : nI mc ≤ nI M := nI_le (by omega) (by omega)
    refine ⟨c, u, m, S, whl_out ?_, whl_out ?_, h, by omega, fun _ => rfl, sx_rfl, sx_rfl⟩
    · unfold p2O
      dsimp only
      rw [c7, ef]
      exact eq_wp (wpt ek rfl)
    · unfold r2O
      dsimp only
      rw [u34, ef]
      exact eq_wp (wpt ek rfl)
  | rr + 1, M, t, t2, S, f, m, c, u, hk, ht, ht2, h, h149, h234 => by
    obtain ⟨t', rfl⟩ : ∃ t', t = t' + 1 := ⟨t - 1, by omega⟩
    obtain ⟨t2', rfl⟩ : ∃ t2', t2 = t2' + 1 := ⟨t2 - 1, by omega⟩
    obtain ⟨-, hcc, hmc⟩ := RDI_S h
    obtain ⟨h1, h2, h3, -, -, -, -, -, h9, -⟩ := id h
    have c7 : c.1 7 7 = nI mc := by
      rw [← h9]
      exact h3.2.1.2.1
    have u34 : u.1 174 34 = nI mc := by
      rw [← h9]
      exact (h2.2.2.1 34 rfl).trans h3.2.1.2.2.1
    have nk : ¬ nI mc ≤ nI M := by simp (disch := first | omega | decide) only [↓neg1, nlit, rI, rL, rI2, rL1, nI_add, pk_mul, sbT, dvT, nmd, ixT, ↓ibT, ltT, ltF, leT, leF, eqT, eqF, nM_ltT, nM_ltF, nM_leT, nM_leF, nM_eqF, nM_eqF', nbT0, nbT1, oI_s, oI_n, natF, natT, nltT, nltF, nleT, nleF, ↓reduceIte, lgc, not_true_eq_false, not_false_eq_true, or_false, false_or, or_true, true_or, and_true, true_and, and_false, false_and, ne_eq, eq_self, or_self, and_self]
    obtain ⟨B, b1, b2, b3⟩ := h149 M (by omega)
    obtain ⟨d1, v1, m1, S1, a1, a2, a3, a4, a5, a6, a7⟩ := p2I_lp (n := n) (bt := bt M) hn hL (show M < mc by omega) b1 b3 cc 0 n n S f m c u (by omega) (by omega) (by omega) h b2 (fun k hk => h234 M k (by omega) hk)
    have p1 : p2O n (bI f, nI M, c) = some (.inl (bI (f || decide (S < S1)), nI (M + 1), d1)) := by
      unfold p2O
      dsimp only
      rw [c7]
      refine eq_wp (wpf nk (wpe a1 (wpl ?_)))
      rw [nI_1]
      rfl
    have p2 : r2O n (bI f, nI M, u) = some (.inl (bI (f || decide (S < S1)), nI (M + 1), v1)) := by
      unfold r2O
      dsimp only
      rw [u34]
      refine eq_wp (wpf nk (wpe a2 (wpl ?_)))
      rw [nI_1]
      rfl
    obtain ⟨d, v, m', S', c1, c2, c3, c4, c5, c6, c8⟩ := p2O_lp hn hL rr (M + 1) t' t2' S1 (f || decide (S < S1)) m1 d1 v1 (by omega) (by omega) (by omega) a3 (fun M' hM' => by
      obtain ⟨B', x1, x2, x3⟩ := h149 M' hM'
      exact ⟨B', x1, by rw [a6.1 _ _ (decide_eq_false (by omega))]; exact x2, x3⟩) (fun M' j hM' hj => by rw [a7.1 _ _ (decide_eq_false (by omega))]; exact h234 M' j hM' hj)
    rw [dec_or a4 c4] at c1 c2
    exact ⟨d, v, m', S', (whl_in p1).trans c1, (whl_in p2).trans c2, c3, by omega, fun z => (c5 (by omega)).trans (a5 (by omega)), sx_trans a6 c6, sx_trans a7 c8⟩
def qRd (A l : Nat) : Bool := decide ((A = 133 ∧ 11 ≤ l ∧ l ≤ 13) ∨ (134 ≤ A ∧ A ≤ 144) ∨ (A = 146 ∧ (l = 8 ∨ (3 ≤ l ∧ l ≤ 5))) ∨ A = 149)
def qRe (A l : Nat) : Bool := decide ((222 ≤ A ∧ A ≤ 228) ∨ (A = 174 ∧ 73 ≤ l ∧ l ≤ 79) ∨ A = 232 ∨ A = 233 ∨ A = 234)
/-- one round -/
theorem rou_go {j : Nat} {fl : Int32} (hn : 10000 ≤ n) (hL : Lb + 260 ≤ 4096) (hfl : ¬ fl = 0) (h : RDI cc mc Lb S m c u) : ∃ d v m' S', d_194 n c = some (bI (decide (S < S')), d) ∧ rLp n (nI j, fl, u) = some (.inl (nI (if S < S' then j + 1 else j), bI (decide (S < S')), v)) ∧ RDI cc mc Lb S' m' d v ∧ S ≤ S' ∧ (S' = S → sx qQ1 u v) ∧ sx qRd c d ∧ sx qRe u v := by
  obtain ⟨-, hcc, hmc⟩ := RDI_S h
  obtain ⟨h1, h2, h3, h4, h5, h6, h7, h8, h9, -⟩ := id h
  obtain ⟨c1, a1, a2, a3⟩ := p1_go (n := n) (by omega) h3.1 h3.2.1
  obtain ⟨u1, b1, b2, b3⟩ := r1_go (n := n) (by omega) h2 h3.1 h3.2.1
  have hR : RDI cc mc Lb S m c1 u1 := RDI_cu h a2 nC_P1 (decide_eq_false (by omega)) (fun i => decide_eq_false (by omega)) (fun i => decide_eq_false (by omega)) b2 nP_Q1 (fun i => decide_eq_false (by omega))
  obtain ⟨d, v, m', S', k1, k2, k3, k4, k5, k6, k7⟩ := p2O_lp (n := n) (bt := mkB m) hn hL mc 0 n n S false m c1 u1 (by omega) (by omega) (by omega) hR (fun M hM => by
    obtain ⟨B, x1, x2, x3⟩ := a3 M (by omega)
    exact ⟨B, x1, x2, fun k hk => by rw [x3 k (by omega), h8, decide_eq_true hk, Bool.true_and]⟩) (fun M k hM hk => b3 M k (by omega) (by omega))
  rw [Bool.false_or] at k1 k2
  refine ⟨d, v, m', S', ?_, ?_, k3, k4, fun z => ?_, sx_trans (sx_wide a2 (fun A l y => ?_)) (sx_wide k6 (fun A l y => ?_)), sx_trans (sx_wide b2 (fun A l y => ?_)) (sx_wide k7 (fun A l y => ?_))⟩
  · rw [d194_s]
    exact eq_wp (wpe a1 (wpe k1 (wpt bI_nb rfl)))
  · unfold rLp
    dsimp only
    refine eq_wp (wpf hfl (wpe b1 (wpe k2 (wpj ?_))))
    by_cases e : S < S'
    · rw [decide_eq_true e, if_pos e]
      refine wpf (show ¬ bI true = 0 by decide) (wpl ?_)
      rw [nI_1]
      rfl
    · rw [decide_eq_false e, if_neg e]
      refine wpt rfl (wpl ?_)
      rw [Int32.add_zero]
      rfl
  · rw [k5 z]
    exact b2
  all_goals
    have := of_decide_eq_false y
    exact decide_eq_false (by omega)
def clRd (n : Nat) (s3 : Int32 × Int32 × cS) : Option ((Int32 × Int32 × cS) ⊕ (Int32 × cS)) :=
    if 240 ≤ s3.2.1 then
      some (.inr (s3.1, s3.2.2))
    else
      Option.bind (d_194 n s3.2.2) (fun r4 =>
      if r4.1 = 0 then
        some (.inr (s3.1, r4.2))
      else
        lt (s3.1 + 1 : Int32) (fun v6 =>
        lt (s3.2.1 + 1 : Int32) (fun v9 =>
        some (.inl (v6, v9, r4.2)))))
theorem d193_s : d_193 n c = Option.bind (whl (clRd n) n (0, 0, c))
  (fun x11 : Int32 × cS =>
    some (x11.1, x11.2)) := rfl
/-- all rounds -/
theorem rl_lp (hn : 10000 ≤ n) (hL : Lb + 260 ≤ 4096) : ∀ (rr j t t2 S : Nat) (fl : Int32) (m c u : cS), j + rr = 240 → rr < t → rr + 1 < t2 → j ≤ S → ¬ fl = 0 → RDI cc mc Lb S m c u → ∃ k d v m' S', whl (clRd n) t (nI j, nI j, c) = some (nI k, d) ∧ whl (rLp n) t2 (nI j, fl, u) = some (nI k, v) ∧ RDI cc mc Lb S' m' d v ∧ sx qRd c d ∧ sx qRe u v
  | 0, j, t, t2, S, fl, m, c, u, hj, ht, ht2, hS, hfl, h => by
    obtain ⟨t', rfl⟩ : ∃ t', t = t' + 1 := ⟨t - 1, by omega⟩
    obtain ⟨t2', rfl⟩ : ∃ t2', t2 = t2' + 1 + 1 := ⟨t2 - 2, by omega⟩
    obtain ⟨d, v, m', S', a1, a2, a3, a4, a5, a6, a7⟩ := rou_go (j := j) hn hL hfl h
    have hS' := (RDI_S a3).1
    have e : ¬ S < S' := by omega
    rw [if_neg e, decide_eq_false e] at a2
    have s1 := a5 (by omega)
    refine ⟨j, c, v, m, S, whl_out ?_, (whl_in a2).trans (whl_out ?_), RDI_cu h (r := qP1) sx_rfl nC_P1 (decide_eq_false (by omega)) (fun i => decide_eq_false (by omega)) (fun i => decide_eq_false (by omega)) s1 nP_Q1 (fun i => decide_eq_false (by omega)), sx_rfl, a7⟩
    · unfold clRd
      dsimp only
      exact eq_wp (wpt (by rw [show j = 240 by omega]; decide) rfl)
    · unfold rLp
      dsimp only
      exact eq_wp (wpt rfl rfl)
  | rr + 1, j, t, t2, S, fl, m, c, u, hj, ht, ht2, hS, hfl, h => by
    obtain ⟨t', rfl⟩ : ∃ t', t = t' + 1 := ⟨t - 1, by omega⟩
    obtain ⟨t2', rfl⟩ : ∃ t2', t2 = t2' + 1 + 1 := ⟨t2 - 2, by omega⟩
    obtain ⟨d, v, m', S', a1, a2, a3, a4, a5, a6, a7⟩ := rou_go (j := j) hn hL hfl h
    have n240 : ¬ 240 ≤ nI j := show ¬ nI 240 ≤ nI j from nI_ge (by omega) (by omega)
    by_cases e : S < S'
    · rw [if_pos e, decide_eq_true e] at a2
      rw [decide_eq_true e] at a1
      obtain ⟨k, d2, v2, m2, S2, b1, b2, b3, b4, b5⟩ := rl_lp hn hL rr (j + 1) t' (t2' + 1) S' (bI true) m' d v (by omega) (by omega) (by omega) (by omega) (by decide) a3
      refine ⟨k, d2, v2, m2, S2, (whl_in (b := (nI (j + 1), nI (j + 1), d)) ?_).trans b1, (whl_in a2).trans b2, b3, sx_trans a6 b4, sx_trans a7 b5⟩
      unfold clRd
      dsimp only
      refine eq_wp (wpf n240 (wpe a1 (wpf (show ¬ bI true = 0 by decide) (wpl (wpl ?_)))))
      rw [nI_1]
      rfl
    · rw [if_neg e, decide_eq_false e] at a2
      rw [decide_eq_false e] at a1
      refine ⟨j, d, v, m', S', whl_out ?_, (whl_in a2).trans (whl_out ?_), a3, a6, a7⟩
      · unfold clRd
        dsimp only
        exact eq_wp (wpf n240 (wpe a1 (wpt rfl rfl)))
      · unfold rLp
        dsimp only
        exact eq_wp (wpt rfl rfl)
def qRf (A l : Nat) : Bool := decide ((A = 133 ∧ 11 ≤ l ∧ l ≤ 13) ∨ (134 ≤ A ∧ A ≤ 144) ∨ (A = 146 ∧ (l = 8 ∨ (3 ≤ l ∧ l ≤ 5))) ∨ A = 149 ∨ A = 126 ∨ A = 162 ∨ (A = 150 ∧ (l = 3 ∨ l = 6 ∨ l = 16)) ∨ (A = 167 ∧ 7 ≤ l ∧ l ≤ 9))
def qRg (A l : Nat) : Bool := decide ((222 ≤ A ∧ A ≤ 228) ∨ (A = 174 ∧ ((73 ≤ l ∧ l ≤ 79) ∨ l = 106 ∨ l = 111 ∨ l = 97 ∨ l = 102 ∨ l = 130)) ∨ A = 232 ∨ A = 233 ∨ A = 234)
def q133 (A l : Nat) : Bool := decide (A = 174 ∧ (l = 106 ∨ l = 111 ∨ l = 97 ∨ l = 102 ∨ l = 130))
theorem nP_133 : nP q133 := by
  refine ⟨fun a i h => ?_, fun i h => ?_, fun i h => decide_eq_false (by omega), fun a i g1 g2 g3 => decide_eq_false (by omega), fun a i g1 g2 g3 => decide_eq_false (by omega)⟩
  · refine decide_eq_false (fun z => ?_)
    rw [z.1] at h
    exact absurd h (by decide)
  · refine decide_eq_false (fun z => ?_)
    rcases z.2 with rfl | rfl | rfl | rfl | rfl <;> exact absurd h (by decide)
/-- rounds -/
theorem c_rounds (hn : 10000 ≤ n) (hL : Lb + 260 ≤ 4096) (h1 : c.1 7 0 = nI 1) (ht : tot ≤ 1024) (h7 : c.1 114 7 = nI tot) (h : RDI cc mc Lb S m c (pI u 174 0 0)) : bo (d_72 n c) (d_124 n u) (fun d w => ∃ m' S', RDI cc mc Lb S' m' d w ∧ FGC tot d ∧ FGR w ∧ sx qRf c d ∧ sx qRg (pI u 174 0 0) w) := by
  have hu : (pI u 174 0 0).1 174 14 = nI 1 := (h.2.1.2.2.1 14 rfl).trans h.1
  obtain ⟨k, d1, v1, m', S', a1, a2, a3, a4, a5⟩ := rl_lp (n := n) hn hL 240 0 n n S 1 m c (pI u 174 0 0) (by omega) (by omega) (by omega) (by omega) (by decide) h
  obtain ⟨d, b1, b2, b3⟩ := wp_ex (e90 (n := n) (c := d1) (tot := tot) hn ht (by rw [a4.1 _ _ (decide_eq_false (by omega))]; exact h7))
  obtain ⟨w, c1, c2, c3⟩ := wp_ex (e133 (n := n) (u := v1))
  refine wp_of (a := (nI k, d)) ?_ (wp_of (a := (nI k, w)) ?_ ⟨rfl, m', S', RDI_cu a3 b2 nC_Fg (decide_eq_false (by omega)) (fun i => decide_eq_false (by omega)) (fun i => decide_eq_false (by omega)) (q := q133) c2 nP_133 (fun i => decide_eq_false (by omega)), b3, c3, sx_trans (sx_wide a4 (fun A l y => ?_)) (sx_wide b2 (fun A l y => ?_)), sx_trans (sx_wide a5 (fun A l y => ?_)) (sx_wide c2 (fun A l y => ?_))⟩)
  · unfold d_72
    rw [h1]
    exact eq_wp (wpf (by decide) (wpe (show d_193 n c = some (nI k, d1) by rw [d193_s]; exact eq_wp (wpe a1 rfl)) (wpe b1 rfl)))
  · rw [d124_s]
    refine eq_wp (wpl ?_)
    rw [hu]
    exact wpf (by decide) (wpe a2 (wpe c1 rfl))
  all_goals
    have := of_decide_eq_false y
    exact decide_eq_false (by omega)
theorem c_rounds0 (h1 : c.1 7 0 = nI 0) (h2 : u.1 174 14 = nI 0) : bo (d_72 n c) (d_124 n u) (fun d w => d = c ∧ w = pI u 174 0 0) := by
  refine wp_of (a := (-1, c)) ?_ (wp_of (a := (-1, pI u 174 0 0)) ?_ ⟨rfl, rfl, rfl⟩)
  · unfold d_72
    rw [h1]
    exact eq_wp (wpt rfl rfl)
  · rw [d124_s]
    refine eq_wp (wpl (wpt ?_ rfl))
    rw [rI, if_neg (by omega), h2]
    rfl
end RDSS
