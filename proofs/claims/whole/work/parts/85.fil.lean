/-! FILES written -/
def vs (v : Int64) : Nat → Int64
  | 0 => v
  | k + 1 => ((vs v k).toUInt64 >>> ((8 : Int32).toInt64.toUInt64 &&& Int64.toUInt64 63)).toInt64
theorem vs_nat {v : Int64} : ∀ k, (vs v k).toBitVec.toNat = v.toBitVec.toNat / 2 ^ (8 * k)
  | 0 => (Nat.div_one _).symm
  | k + 1 => by
    show ((vs v k).toUInt64 >>> ((8 : Int32).toInt64.toUInt64 &&& Int64.toUInt64 63)).toBitVec.toNat = _
    rw [UInt64.toBitVec_shiftRight, BitVec.ushiftRight_eq', BitVec.toNat_ushiftRight, Nat.shiftRight_eq_div_pow, show ((((8 : Int32).toInt64.toUInt64 &&& Int64.toUInt64 63).toBitVec % 64).toNat) = 8 by decide +kernel]
    show (vs v k).toBitVec.toNat / 2 ^ 8 = _
    rw [vs_nat k, Nat.div_div_eq_div_mul, ← Nat.pow_add, Nat.mul_add]
theorem vs_8 {v : Int64} : vs v 8 = 0 := by
  refine Int64.toBitVec_inj.mp (BitVec.eq_of_toNat_eq ?_)
  rw [vs_nat]
  show _ = 0
  exact Nat.div_eq_of_lt v.toBitVec.isLt
def szN (v : Int64) : Nat := (ff (fun k => decide (vs v k = 0)) 8).getD 8
theorem szN_le (v : Int64) : szN v ≤ 8 := by
  unfold szN
  cases h : ff (fun k => decide (vs v k = 0)) 8 with
  | none => exact Nat.le_refl _
  | some k =>
    have := (ff_some h).1
    show k ≤ 8
    omega
theorem szloop {n : Nat} {v : Int64} (hn : 1000 ≤ n) : whl (R := Int32) (fun s3 : Int32 × Int64 => if (lg_cmp s3.2 0) = 0 then some (.inr s3.1) else lt (s3.1 + 1 : Int32) (fun v5 => lt (((s3.2 : Int64).toUInt64 >>> ((8 : Int32).toInt64.toUInt64 &&& Int64.toUInt64 63)).toInt64 : Int64) (fun v8 => some (.inl (v5, v8))))) n (0, v) = some (nI (szN v)) := by
  have key := whl_ff (n := n) (f := fun s3 : Int32 × Int64 => if (lg_cmp s3.2 0) = 0 then some (.inr s3.1) else lt (s3.1 + 1 : Int32) (fun v5 => lt (((s3.2 : Int64).toUInt64 >>> ((8 : Int32).toInt64.toUInt64 &&& Int64.toUInt64 63)).toInt64 : Int64) (fun v8 => some (.inl (v5, v8))))) (fun k => (nI k, vs v k)) (nI 8) (fun k => nI k) (fun k => decide (vs v k = 0)) (cnt := 8) (by omega) ?_ (fun k hk => ?_)
  · refine key.trans ?_
    unfold szN
    cases ff (fun k => decide (vs v k = 0)) 8 <;> rfl
  · simp (disch := first | omega | decide) only [↓neg1, nlit, rI, rL, rI2, rL1, nI_add, pk_mul, sbT, dvT, nmd, ixT, ↓ibT, ltT, ltF, leT, leF, eqT, eqF, nM_ltT, nM_ltF, nM_leT, nM_leF, nM_eqF, nM_eqF', nbT0, nbT1, oI_s, oI_n, natF, natT, nltT, nltF, nleT, nleF, ↓reduceIte, lgc, not_true_eq_false, not_false_eq_true, or_false, false_or, or_true, true_or, and_true, true_and, and_false, false_and, ne_eq, eq_self, or_self, and_self, obs, ↓jn, ↓lt, ↓reduceIte, decide_true, decide_false, Bool.false_eq_true, Bool.and_true, Bool.and_false, Bool.true_and, Bool.false_and, Bool.or_false, Bool.false_or, Bool.or_true, Bool.true_or, vs_8]
  · by_cases h : vs v k = 0
    · simp (disch := first | omega | decide) only [↓neg1, nlit, rI, rL, rI2, rL1, nI_add, pk_mul, sbT, dvT, nmd, ixT, ↓ibT, ltT, ltF, leT, leF, eqT, eqF, nM_ltT, nM_ltF, nM_leT, nM_leF, nM_eqF, nM_eqF', nbT0, nbT1, oI_s, oI_n, natF, natT, nltT, nltF, nleT, nleF, ↓reduceIte, lgc, not_true_eq_false, not_false_eq_true, or_false, false_or, or_true, true_or, and_true, true_and, and_false, false_and, ne_eq, eq_self, or_self, and_self, obs, ↓jn, ↓lt, ↓reduceIte, decide_true, decide_false, Bool.false_eq_true, Bool.and_true, Bool.and_false, Bool.true_and, Bool.false_and, Bool.or_false, Bool.false_or, Bool.or_true, Bool.true_or, h]
    · simp (disch := first | omega | decide) only [↓neg1, nlit, rI, rL, rI2, rL1, nI_add, pk_mul, sbT, dvT, nmd, ixT, ↓ibT, ltT, ltF, leT, leF, eqT, eqF, nM_ltT, nM_ltF, nM_leT, nM_leF, nM_eqF, nM_eqF', nbT0, nbT1, oI_s, oI_n, natF, natT, nltT, nltF, nleT, nleF, ↓reduceIte, lgc, not_true_eq_false, not_false_eq_true, or_false, false_or, or_true, true_or, and_true, true_and, and_false, false_and, ne_eq, eq_self, or_self, and_self, obs, ↓jn, ↓lt, ↓reduceIte, decide_true, decide_false, Bool.false_eq_true, Bool.and_true, Bool.and_false, Bool.true_and, Bool.false_and, Bool.or_false, Bool.false_or, Bool.or_true, Bool.true_or, h, vs]
theorem e359 {n : Nat} {v : Int64} (hn : 1000 ≤ n) : d_359 n v = some (nI (szN v)) := by
  unfold d_359
  rw [szloop hn]
  rfl
theorem e339 {n : Nat} {v : Int64} {c : cS} {L : List Nat} (hn : 1000 ≤ n) (h : OC c L) : wp (d_339 n v c) (fun d => OC d (L ++ ([szN v] ++ sg v)) ∧ sx qO c d) := by
  have := szN_le v
  unfold d_339
  rw [szloop hn]
  show wp (Option.bind (d_317 n (nI (szN v)) c) _) _
  refine wpc (e317 (by omega) h) (fun d hd => ?_)
  refine wpc (e318 hn hd.1) (fun w hw => ?_)
  refine ⟨?_, sx_trans hd.2 hw.2⟩
  rw [← List.append_assoc]
  exact hw.1
theorem e438 {n : Nat} {v : Int64} {u : cS} {L : List Nat} (hn : 1000 ≤ n) (h : OM u L) : wp (d_438 n v u) (fun d => OM d (L ++ ([szN v] ++ sg v)) ∧ sx pO u d) := by
  have := szN_le v
  unfold d_438
  refine wpe (e359 hn) ?_
  refine wpc (e357 (by omega) h) (fun d hd => ?_)
  refine wpc (e358 hn hd.1) (fun w hw => ?_)
  refine ⟨?_, sx_trans hd.2 hw.2⟩
  rw [← List.append_assoc]
  exact hw.1
theorem ssh8c {v : Int64} {s : Nat} (hs : s ≤ 56) : ((v >>> ((nI s).toInt64 &&& 63)).toInt32 &&& 255) = nI (bz8 v s) := by
  have h1 := congrArg (fun z => z.toBitVec.toNat) (ssh8 (v := v) hs)
  simp only [Int64.toBitVec_and, BitVec.toNat_and] at h1
  rw [show (255 : Int64).toBitVec.toNat = 2 ^ 8 - 1 by decide +kernel, Nat.and_two_pow_sub_one_eq_mod] at h1
  have h2 : (Int64.ofNat (bz8 v s)).toBitVec.toNat = bz8 v s := by
    have : ∀ q : Fin 256, (Int64.ofNat q.1).toBitVec.toNat = q.1 := by decide +kernel
    exact this ⟨_, bz8_lt v s⟩
  rw [h2] at h1
  rw [pk_and _ 8 (by decide), Int64.toBitVec_toInt32, BitVec.signExtend_eq_setWidth_of_le _ (by decide), BitVec.toNat_setWidth]
  refine congrArg nI ?_
  rw [← h1]
  omega
def fourK (v : Int64) : Nat → List Nat
  | 0 => []
  | k + 1 => fourK v k ++ [bz8 v (24 - 8 * k)]
def sf4 (k : Nat) : Int32 := Int32.ofInt (24 - 8 * (k : Int))
theorem sf4_at {k : Nat} (h : k < 4) : sf4 k = nI (24 - 8 * k) ∧ (sf4 k < 0) = False ∧ sf4 k + (-8) = sf4 (k + 1) := by
  have h1 : ∀ q : Fin 4, sf4 q.1 = nI (24 - 8 * q.1) := by decide +kernel
  have h2 : ∀ q : Fin 4, ¬ sf4 q.1 < 0 := by decide +kernel
  have h3 : ∀ q : Fin 4, sf4 q.1 + (-8) = sf4 (q.1 + 1) := by decide +kernel
  exact ⟨h1 ⟨k, h⟩, eq_false (h2 ⟨k, h⟩), h3 ⟨k, h⟩⟩
theorem e340 {n : Nat} {v : Int64} {c : cS} {L : List Nat} (hn : 1000 ≤ n) (h : OC c L) : wp (d_340 n v c) (fun d => OC d (L ++ fourK v 4) ∧ sx qO c d) := by
  unfold d_340
  refine wpc (K' := fun d : cS => OC d (L ++ fourK v 4) ∧ sx qO c d) (whl_cnt (fun k (st : Int32 × cS) => st.1 = sf4 k ∧ OC st.2 (L ++ fourK v k) ∧ sx qO c st.2) 4 ?_ ?_ (by omega) ⟨rfl, by unfold fourK; rw [List.append_nil]; exact h, sx_rfl⟩) (fun d hd => hd)
  · rintro k ⟨a, w⟩ hk ⟨g1, g2, g3⟩
    dsimp only at g1 g2 g3
    subst g1
    obtain ⟨f1, f2, f3⟩ := sf4_at hk
    have hb := bz8_lt v (24 - 8 * k)
    dsimp only
    refine wpf (by rw [f2]; exact id) ?_
    rw [f3, f1, ssh8c (by omega)]
    refine wpc (e317 hb g2) (fun d hd => ?_)
    (try dsimp only); repeat (first | with_reducible refine wpl ?_ | with_reducible refine wpj ?_ | with_reducible refine wpSl ?_ | with_reducible refine wpSr ?_ | with_reducible refine wpS ?_ | ((with_reducible refine wpt ?_ ?_); · simp (disch := first | omega | decide) only [↓neg1, nlit, rI, rL, rI2, rL1, nI_add, pk_mul, sbT, dvT, nmd, ixT, ↓ibT, ltT, ltF, leT, leF, eqT, eqF, nM_ltT, nM_ltF, nM_leT, nM_leF, nM_eqF, nM_eqF', nbT0, nbT1, oI_s, oI_n, natF, natT, nltT, nltF, nleT, nleF, ↓reduceIte, lgc, not_true_eq_false, not_false_eq_true, or_false, false_or, or_true, true_or, and_true, true_and, and_false, false_and, ne_eq, eq_self, or_self, and_self]; done) | ((with_reducible refine wpf ?_ ?_); · simp (disch := first | omega | decide) only [↓neg1, nlit, rI, rL, rI2, rL1, nI_add, pk_mul, sbT, dvT, nmd, ixT, ↓ibT, ltT, ltF, leT, leF, eqT, eqF, nM_ltT, nM_ltF, nM_leT, nM_leF, nM_eqF, nM_eqF', nbT0, nbT1, oI_s, oI_n, natF, natT, nltT, nltF, nleT, nleF, ↓reduceIte, lgc, not_true_eq_false, not_false_eq_true, or_false, false_or, or_true, true_or, and_true, true_and, and_false, false_and, ne_eq, eq_self, or_self, and_self]; done))
    refine ⟨rfl, ?_, sx_trans g3 hd.2⟩
    unfold fourK
    rw [← List.append_assoc]
    exact hd.1
  · rintro ⟨a, w⟩ ⟨g1, g2, g3⟩
    dsimp only at g1 g2 g3
    subst g1
    exact wpt (show sf4 4 < 0 by decide) ⟨g2, g3⟩
def catN (f : Nat → List Nat) : Nat → List Nat
  | 0 => []
  | k + 1 => catN f k ++ f k
/-- THE FILE of a PLACE -/
def flP (m : cS) (y q : Nat) : List Nat := [szN (m.2 226 (y * 4 + q))] ++ sg (m.2 226 (y * 4 + q)) ++ [ix (m.1 227 (y * 4 + q))] ++ (if m.1 227 (y * 4 + q) = nI 1 then fourK (m.2 228 (y * 4 + q)) 4 else [szN (m.2 228 (y * 4 + q))] ++ sg (m.2 228 (y * 4 + q)))
def flM (m : cS) (y : Nat) : List Nat := [szN (m.2 223 y)] ++ sg (m.2 223 y) ++ [if m.1 224 y = nI 0 then prn m y else 255] ++ catN (flP m y) (prn m y)
def flR (m : cS) (p : Nat) : List Nat := [mz m p] ++ catN (fun i => flM m (p * 20 + i)) (mz m p)
