/-! READING: bytes, spans, words -/
section LEX
variable {n v p k L : Nat} {b : Nat → Nat} {q : Nat → Bool}
def lxL (v : Nat) : Bool := (Nat.ble 97 v && Nat.ble v 122) || (Nat.ble 65 v && Nat.ble v 90)
def lxD (v : Nat) : Bool := Nat.ble 48 v && Nat.ble v 57
def lxLD (v : Nat) : Bool := lxL v || lxD v
def lxT (v : Nat) : Bool := Nat.ble 32 v && Nat.ble v 126 && !Nat.beq v 39
def lxG (v : Nat) : Bool := Nat.beq v 58 || Nat.beq v 59 || Nat.beq v 44 || Nat.beq v 46 || Nat.beq v 61 || Nat.beq v 60 || Nat.beq v 40 || Nat.beq v 41 || Nat.beq v 123 || Nat.beq v 125 || Nat.beq v 64 || Nat.beq v 45
def lxB (v : Nat) : Bool := Nat.beq v 32 || Nat.beq v 10
theorem e352s (hv : v < 256) : d_352 n (sb v) = some (if lxL v = true then 1 else 0) := by
  have h : ∀ v : Fin 256, d_352 0 (sb v.1) = some (if lxL v.1 = true then 1 else 0) := by decide +kernel
  exact h ⟨v, hv⟩
theorem e353s (hv : v < 256) : d_353 n (sb v) = some (if lxD v = true then 1 else 0) := by
  have h : ∀ v : Fin 256, d_353 0 (sb v.1) = some (if lxD v.1 = true then 1 else 0) := by decide +kernel
  exact h ⟨v, hv⟩
theorem e354s (hv : v < 256) : d_354 n (sb v) = some (if lxT v = true then 1 else 0) := by
  have h : ∀ v : Fin 256, d_354 0 (sb v.1) = some (if lxT v.1 = true then 1 else 0) := by decide +kernel
  exact h ⟨v, hv⟩
theorem e352n (hv : v < 256) : d_352 n (nI v) = some (if lxL v = true then 1 else 0) := by
  have h : ∀ v : Fin 256, d_352 0 (nI v.1) = some (if lxL v.1 = true then 1 else 0) := by decide +kernel
  exact h ⟨v, hv⟩
theorem e353n (hv : v < 256) : d_353 n (nI v) = some (if lxD v = true then 1 else 0) := by
  have h : ∀ v : Fin 256, d_353 0 (nI v.1) = some (if lxD v.1 = true then 1 else 0) := by decide +kernel
  exact h ⟨v, hv⟩
theorem e367n (hv : v < 256) : d_367 n (nI v) = some (if lxL v = true then 1 else 0) := by
  have h : ∀ v : Fin 256, d_367 0 (nI v.1) = some (if lxL v.1 = true then 1 else 0) := by decide +kernel
  exact h ⟨v, hv⟩
theorem e368n (hv : v < 256) : d_368 n (nI v) = some (if lxD v = true then 1 else 0) := by
  have h : ∀ v : Fin 256, d_368 0 (nI v.1) = some (if lxD v.1 = true then 1 else 0) := by decide +kernel
  exact h ⟨v, hv⟩
theorem e369n (hv : v < 256) : d_369 n (nI v) = some (if lxG v = true then 1 else 0) := by
  have h : ∀ v : Fin 256, d_369 0 (nI v.1) = some (if lxG v.1 = true then 1 else 0) := by decide +kernel
  exact h ⟨v, hv⟩
theorem sb_255 (hv : v < 256) : sb v &&& 255 = nI v := by
  have h : ∀ v : Fin 256, sb v.1 &&& 255 = nI v.1 := by decide +kernel
  exact h ⟨v, hv⟩
theorem sb_lo (hv : v < 128) : sb v = nI v := by
  have h : ∀ v : Fin 128, sb v.1 = nI v.1 := by decide +kernel
  exact h ⟨v, hv⟩
theorem sb_eq {a : Nat} (hv : v < 256) (ha : a < 128) : sb v = nI a ↔ v = a := by
  have h : ∀ v : Fin 256, ∀ a : Fin 128, sb v.1 = nI a.1 ↔ v.1 = a.1 := by decide +kernel
  exact h ⟨v, hv⟩ ⟨a, ha⟩
theorem lxL_lo (h : lxL v = true) : v < 128 := by
  unfold lxL at h
  simp at h
  omega
theorem lxLD_lo (h : lxLD v = true) : v < 128 := by
  unfold lxLD lxL lxD at h
  simp at h
  omega
theorem lxD_lo (h : lxD v = true) : v < 128 := by
  unfold lxD at h
  simp at h
  omega
theorem lxT_lo (h : lxT v = true) : v < 128 := by
  unfold lxT at h
  simp at h
  omega
theorem s39 : (sB 39).length = 12 ∧ (∀ j, j < 12 → ib (nI j) 12) := ⟨by decide +kernel, fun j hj => ib_n hj (by decide)⟩
theorem e488 {x : Int32} (hn : 1000 ≤ n) : d_488 n 39 x 0 (nI 12) = some (oI (ff (fun k => decide ((sB 39).getD k 0 = x.toInt8.toInt32)) 12)) := by
  unfold d_488
  show Option.bind (whl _ n 0) _ = _
  refine bwf (fun k => nI k) (Sum.inl ()) (fun k => Sum.inr (nI k)) (fun k => decide ((sB 39).getD k 0 = x.toInt8.toInt32)) (cnt := 12) (by omega) rfl ?_ (fun j hj => ?_) ?_
  · show (if nI 12 ≤ nI 12 then _ else _) = _
    rw [if_pos (by decide)]
  · show (if nI 12 ≤ nI j then _ else _) = _
    rw [if_neg (by simp (disch := first | omega | decide) only [↓neg1, nlit, rI, rL, rI2, rL1, nI_add, pk_mul, sbT, dvT, nmd, ixT, ↓ibT, ltT, ltF, leT, leF, eqT, eqF, nM_ltT, nM_ltF, nM_leT, nM_leF, nM_eqF, nM_eqF', nbT0, nbT1, oI_s, oI_n, natF, natT, nltT, nltF, nleT, nleF, ↓reduceIte, lgc, not_true_eq_false, not_false_eq_true, or_false, false_or, or_true, true_or, and_true, true_and, and_false, false_and, ne_eq, eq_self, or_self, and_self]), s39.1, if_pos (s39.2 j hj), ix_n (by omega)]
    by_cases e : (sB 39).getD j 0 = x.toInt8.toInt32
    · rw [if_pos e, decide_eq_true e, if_pos rfl]
    · rw [if_neg e, decide_eq_false e, if_neg (by decide)]
      show some (Sum.inl (nI j + 1)) = _
      rw [nI_1]
  · cases ff _ _ <;> rfl
theorem e484 (hn : 1000 ≤ n) (hv : v < 256) : ∃ r, d_484 n 39 (((nI v).toUInt32 % 65536).toInt32) = some r ∧ (r < 0 ↔ lxG v = false) := by
  have h1 : ∀ v : Fin 256, ((nI v.1).toUInt32 % 65536).toInt32 = nI v.1 := by decide +kernel
  have h2 : ∀ v : Fin 256, d_487 0 (nI v.1) = some 1 := by decide +kernel
  have h3 : ∀ v : Fin 256, (ff (fun k => decide ((sB 39).getD k 0 = (nI v.1).toInt8.toInt32)) 12).isSome = lxG v.1 := by decide +kernel
  have h4 : d_148 n 39 = some 1 := rfl
  have h5 : d_145 n 39 = some (nI 12) := (e145 (by rw [s39.1]; decide)).trans (by rw [s39.1])
  have h6 : d_487 n (nI v) = some 1 := h2 ⟨v, hv⟩
  have h7 := h3 ⟨v, hv⟩
  refine ⟨oI (ff (fun k => decide ((sB 39).getD k 0 = (nI v).toInt8.toInt32)) 12), ?_, ?_⟩
  · rw [h1 ⟨v, hv⟩]
    unfold d_484 d_485
    refine eq_wp (wpe (eq_wp (wpe h4 (wpf (by decide) (wpe h5 (wpe (a := oI (ff (fun k => decide ((sB 39).getD k 0 = (nI v).toInt8.toInt32)) 12)) (eq_wp ?_) rfl))))) rfl)
    unfold d_486
    refine wpe h6 (wpf (by decide) ?_)
    rw [s39.1]
    refine wpl (wpl ?_)
    rw [show (if (0 : Int32) < 0 then (0 : Int32) else 0) = 0 by decide, show (if Int32.ofNat 12 < nI 12 then Int32.ofNat 12 else nI 12) = nI 12 by decide]
    exact wpt (by decide) (wpe (e488 hn) rfl)
  · dsimp only at h7
    rw [← h7]
    cases hf : ff (fun k => decide ((sB 39).getD k 0 = (nI v).toInt8.toInt32)) 12 with
    | none => exact ⟨fun _ => rfl, fun _ => by decide⟩
    | some j =>
      have hj := (ff_some hf).1
      refine ⟨fun z => absurd z (nI_pos (by omega)), fun z => by cases z⟩
/-- how far signs of a kind go -/
def spn (q : Nat → Bool) (b : Nat → Nat) : Nat → Nat → Nat
  | 0, p => p
  | t + 1, p => if q (b p) = true then spn q b t (p + 1) else p
def spE (q : Nat → Bool) (b : Nat → Nat) (L p : Nat) : Nat := spn q b (L - p) p
theorem spn_in : ∀ t p, p ≤ spn q b t p ∧ spn q b t p ≤ p + t ∧ (∀ i, p ≤ i → i < spn q b t p → q (b i) = true) ∧ (spn q b t p < p + t → q (b (spn q b t p)) = false)
  | 0, p => ⟨Nat.le_refl _, Nat.le_refl _, fun i h1 h2 => absurd h2 (by unfold spn; omega), fun h => absurd h (by unfold spn; omega)⟩
  | t + 1, p => by
    unfold spn
    by_cases e : q (b p) = true
    · rw [if_pos e]
      obtain ⟨h1, h2, h3, h4⟩ := spn_in t (p + 1)
      refine ⟨by omega, by omega, fun i g1 g2 => ?_, fun h => h4 (by omega)⟩
      by_cases e2 : i = p
      · rw [e2]
        exact e
      · exact h3 i (by omega) g2
    · rw [if_neg e]
      exact ⟨Nat.le_refl _, by omega, fun i h1 h2 => by omega, fun _ => by simpa using e⟩
theorem spE_in (h : p ≤ L) : p ≤ spE q b L p ∧ spE q b L p ≤ L ∧ (∀ i, p ≤ i → i < spE q b L p → q (b i) = true) ∧ (spE q b L p < L → q (b (spE q b L p)) = false) := by
  obtain ⟨h1, h2, h3, h4⟩ := spn_in (q := q) (b := b) (L - p) p
  exact ⟨h1, by unfold spE; omega, h3, fun z => h4 (by unfold spE at z; omega)⟩
theorem spE_s (h : p < L) (hq : q (b p) = true) : spE q b L p = spE q b L (p + 1) := by
  unfold spE
  rw [show L - p = (L - (p + 1)) + 1 by omega]
  show (if q (b p) = true then _ else _) = _
  rw [if_pos hq]
theorem spE_n (hq : p < L → q (b p) = false) : spE q b L p = p := by
  unfold spE
  by_cases h : p < L
  · rw [show L - p = (L - (p + 1)) + 1 by omega]
    show (if q (b p) = true then _ else _) = _
    rw [if_neg (by rw [hq h]; decide)]
  · rw [show L - p = 0 by omega]
    rfl
/-- values -/
def pkB (b : Nat → Nat) (p : Nat) : Nat → Int64
  | 0 => 0
  | k + 1 => (pkB b p k <<< ((8 : Int32).toInt64 &&& 63)) ||| (nI (b (p + k))).toInt64
def nmB (b : Nat → Nat) (p : Nat) : Nat → Int64
  | 0 => 0
  | k + 1 => (nmB b p k * 10 + (nI (b (p + k))).toInt64) - 48
/-- words -/
def wOf (v : Int64) : Option Nat := ff (fun w => decide (pkN (2 + w) (sB (2 + w)).length = v)) 31
def wCd (v : Int64) : Nat := match wOf v with | none => 1 | some w => 200 + w
def wSd (v : Int64) : Nat := match wOf v with | none => 0 | some _ => 4
def wWd (v : Int64) : Int64 := match wOf v with | none => v | some w => (nI w).toInt64
theorem wd_n {v : Int64} (h : wOf v = none) : wCd v = 1 ∧ wSd v = 0 ∧ wWd v = v := by
  unfold wCd wSd wWd
  rw [h]
  exact ⟨rfl, rfl, rfl⟩
theorem wd_s {v : Int64} {w : Nat} (h : wOf v = some w) : wCd v = 200 + w ∧ wSd v = 4 ∧ wWd v = (nI w).toInt64 := by
  unfold wCd wSd wWd
  rw [h]
  exact ⟨rfl, rfl, rfl⟩
def WV (c : cS) : Prop := ∀ w, w < 31 → c.2 6 w = pkN (2 + w) (sB (2 + w)).length
theorem wrd (w : Nat) (hw : w < 31) : asc (2 + w) = true ∧ (sB (2 + w)).length < 1000 := by
  have h : ∀ w : Fin 31, asc (2 + w.1) = true ∧ (sB (2 + w.1)).length < 1000 := by decide +kernel
  exact h ⟨w, hw⟩
theorem e173 {v : Int64} {c : cS} (hn : 1000 ≤ n) (hW : WV c) : d_173 n v c = some (nI (wCd v)) := by
  unfold d_173
  refine bwf (fun k => nI k) (Sum.inl ()) (fun k => Sum.inr (nI k)) (fun w => decide (pkN (2 + w) (sB (2 + w)).length = v)) (cnt := 31) (by omega) rfl ?_ (fun j hj => ?_) ?_
  · simp (disch := first | omega | decide) only [↓neg1, nlit, rI, rL, rI2, rL1, nI_add, pk_mul, sbT, dvT, nmd, ixT, ↓ibT, ltT, ltF, leT, leF, eqT, eqF, nM_ltT, nM_ltF, nM_leT, nM_leF, nM_eqF, nM_eqF', nbT0, nbT1, oI_s, oI_n, natF, natT, nltT, nltF, nleT, nleF, ↓reduceIte, lgc, not_true_eq_false, not_false_eq_true, or_false, false_or, or_true, true_or, and_true, true_and, and_false, false_and, ne_eq, eq_self, or_self, and_self, obs, ↓jn, ↓lt, ↓reduceIte, decide_true, decide_false, Bool.false_eq_true, Bool.and_true, Bool.and_false, Bool.true_and, Bool.false_and, Bool.or_false, Bool.false_or, Bool.or_true, Bool.true_or]
  · have hc := hW j hj
    by_cases hv : pkN (2 + j) (sB (2 + j)).length = v
    · simp (disch := first | omega | decide) only [↓neg1, nlit, rI, rL, rI2, rL1, nI_add, pk_mul, sbT, dvT, nmd, ixT, ↓ibT, ltT, ltF, leT, leF, eqT, eqF, nM_ltT, nM_ltF, nM_leT, nM_leF, nM_eqF, nM_eqF', nbT0, nbT1, oI_s, oI_n, natF, natT, nltT, nltF, nleT, nleF, ↓reduceIte, lgc, not_true_eq_false, not_false_eq_true, or_false, false_or, or_true, true_or, and_true, true_and, and_false, false_and, ne_eq, eq_self, or_self, and_self, obs, ↓jn, ↓lt, ↓reduceIte, decide_true, decide_false, Bool.false_eq_true, Bool.and_true, Bool.and_false, Bool.true_and, Bool.false_and, Bool.or_false, Bool.false_or, Bool.or_true, Bool.true_or, hc, hv]
    · simp (disch := first | omega | decide) only [↓neg1, nlit, rI, rL, rI2, rL1, nI_add, pk_mul, sbT, dvT, nmd, ixT, ↓ibT, ltT, ltF, leT, leF, eqT, eqF, nM_ltT, nM_ltF, nM_leT, nM_leF, nM_eqF, nM_eqF', nbT0, nbT1, oI_s, oI_n, natF, natT, nltT, nltF, nleT, nleF, ↓reduceIte, lgc, not_true_eq_false, not_false_eq_true, or_false, false_or, or_true, true_or, and_true, true_and, and_false, false_and, ne_eq, eq_self, or_self, and_self, obs, ↓jn, ↓lt, ↓reduceIte, decide_true, decide_false, Bool.false_eq_true, Bool.and_true, Bool.and_false, Bool.true_and, Bool.false_and, Bool.or_false, Bool.false_or, Bool.or_true, Bool.true_or, hc, hv]
  · show Sum.elim _ _ ((wOf v).elim (Sum.inl ()) (fun k => Sum.inr (nI k))) = _
    cases hf : wOf v with
    | none =>
      rw [(wd_n hf).1]
      rfl
    | some w =>
      rw [(wd_s hf).1]
      show some ((200 : Int32) + nI w) = some (nI (200 + w))
      rw [show (200 : Int32) = nI 200 from rfl, nI_add]
theorem e371 {v : Int64} {u : cS} (hn : 1000 ≤ n) : d_371 n v u = some (oI (wOf v)) := by
  unfold d_371
  refine bwf (fun k => nI k) (Sum.inl ()) (fun k => Sum.inr (nI k)) (fun w => decide (pkN (2 + w) (sB (2 + w)).length = v)) (cnt := 31) (by omega) rfl ?_ (fun j hj => ?_) ?_
  · simp (disch := first | omega | decide) only [↓neg1, nlit, rI, rL, rI2, rL1, nI_add, pk_mul, sbT, dvT, nmd, ixT, ↓ibT, ltT, ltF, leT, leF, eqT, eqF, nM_ltT, nM_ltF, nM_leT, nM_leF, nM_eqF, nM_eqF', nbT0, nbT1, oI_s, oI_n, natF, natT, nltT, nltF, nleT, nleF, ↓reduceIte, lgc, not_true_eq_false, not_false_eq_true, or_false, false_or, or_true, true_or, and_true, true_and, and_false, false_and, ne_eq, eq_self, or_self, and_self, obs, ↓jn, ↓lt, ↓reduceIte, decide_true, decide_false, Bool.false_eq_true, Bool.and_true, Bool.and_false, Bool.true_and, Bool.false_and, Bool.or_false, Bool.false_or, Bool.or_true, Bool.true_or]
  · have hc := e370 (n := n) hn (wrd j hj).1 (wrd j hj).2
    by_cases hv : pkN (2 + j) (sB (2 + j)).length = v
    · simp (disch := first | omega | decide) only [↓neg1, nlit, rI, rL, rI2, rL1, nI_add, pk_mul, sbT, dvT, nmd, ixT, ↓ibT, ltT, ltF, leT, leF, eqT, eqF, nM_ltT, nM_ltF, nM_leT, nM_leF, nM_eqF, nM_eqF', nbT0, nbT1, oI_s, oI_n, natF, natT, nltT, nltF, nleT, nleF, ↓reduceIte, lgc, not_true_eq_false, not_false_eq_true, or_false, false_or, or_true, true_or, and_true, true_and, and_false, false_and, ne_eq, eq_self, or_self, and_self, obs, ↓jn, ↓lt, ↓reduceIte, decide_true, decide_false, Bool.false_eq_true, Bool.and_true, Bool.and_false, Bool.true_and, Bool.false_and, Bool.or_false, Bool.false_or, Bool.or_true, Bool.true_or, hc, hv]
    · simp (disch := first | omega | decide) only [↓neg1, nlit, rI, rL, rI2, rL1, nI_add, pk_mul, sbT, dvT, nmd, ixT, ↓ibT, ltT, ltF, leT, leF, eqT, eqF, nM_ltT, nM_ltF, nM_leT, nM_leF, nM_eqF, nM_eqF', nbT0, nbT1, oI_s, oI_n, natF, natT, nltT, nltF, nleT, nleF, ↓reduceIte, lgc, not_true_eq_false, not_false_eq_true, or_false, false_or, or_true, true_or, and_true, true_and, and_false, false_and, ne_eq, eq_self, or_self, and_self, obs, ↓jn, ↓lt, ↓reduceIte, decide_true, decide_false, Bool.false_eq_true, Bool.and_true, Bool.and_false, Bool.true_and, Bool.false_and, Bool.or_false, Bool.false_or, Bool.or_true, Bool.true_or, hc, hv]
  · unfold wOf
    cases ff _ _ <;> rfl
end LEX
