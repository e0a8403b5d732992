/-! WHAT IS WRITTEN -/
/-- L is what THE OUT has been given: the class's, the reference's -/
def OC (c : cS) (L : List Nat) : Prop := c.1 172 1 = nI (min L.length 8000) ∧ ∀ i, i < L.length → i < 8000 → c.1 173 i &&& 255 = nI (L.getD i 0)
def OM (u : cS) (L : List Nat) : Prop := u.1 174 4 = nI (min L.length 8000) ∧ ∀ i, i < L.length → i < 8000 → u.1 176 i = nI (L.getD i 0)
theorem JO_of {c u : cS} {L : List Nat} (h : OC c L) (g : OM u L) : JO c u := by
  refine ⟨min L.length 8000, by omega, h.1, g.1, fun i hi => ?_⟩
  rw [h.2 i (by omega) (by omega), g.2 i (by omega) (by omega)]
theorem OC_nil {c : cS} (h : c.1 172 1 = nI 0) : OC c [] := ⟨h, fun i hi => absurd hi (Nat.not_lt_zero _)⟩
theorem OM_nil {u : cS} (h : u.1 174 4 = nI 0) : OM u [] := ⟨h, fun i hi => absurd hi (Nat.not_lt_zero _)⟩
theorem gd_app {L : List Nat} {b i : Nat} : (L ++ [b]).getD i 0 = if i = L.length then b else L.getD i 0 := by
  rw [List.getD_eq_getElem?_getD, List.getD_eq_getElem?_getD]
  by_cases h : i < L.length
  · rw [List.getElem?_append_left h, if_neg (by omega)]
  · by_cases e : i = L.length
    · rw [if_pos e, e]
      simp
    · rw [if_neg e, List.getElem?_eq_none (by simp; omega), List.getElem?_eq_none (by omega)]
theorem by255 {b : Nat} (h : b < 256) : vp_nar .byte ((nI b).toInt8.toInt32) &&& 255 = nI b := by
  have : ∀ q : Fin 256, ((nI q.1).toInt8.toInt32) &&& 255 = nI q.1 := by decide +kernel
  rw [pk_vb]
  exact this ⟨b, h⟩
theorem an255 {b : Nat} (h : b < 256) : nI b &&& 255 = nI b := by
  have : ∀ q : Fin 256, nI q.1 &&& 255 = nI q.1 := by decide +kernel
  exact this ⟨b, h⟩
theorem e317 {n b : Nat} {c : cS} {L : List Nat} (hb : b < 256) (h : OC c L) : wp (d_317 n (nI b) c) (fun d => OC d (L ++ [b]) ∧ sx qO c d) := by
  obtain ⟨h1, h2⟩ := h
  unfold d_317
  by_cases hl : 8000 ≤ L.length
  · rw [Nat.min_eq_right hl] at h1
    (try dsimp only); repeat (first | with_reducible refine wpl ?_ | with_reducible refine wpj ?_ | with_reducible refine wpSl ?_ | with_reducible refine wpSr ?_ | with_reducible refine wpS ?_ | ((with_reducible refine wpt ?_ ?_); · simp (disch := first | omega | decide) only [↓neg1, nlit, rI, rL, rI2, rL1, nI_add, pk_mul, sbT, dvT, nmd, ixT, ↓ibT, ltT, ltF, leT, leF, eqT, eqF, nM_ltT, nM_ltF, nM_leT, nM_leF, nM_eqF, nM_eqF', nbT0, nbT1, oI_s, oI_n, natF, natT, nltT, nltF, nleT, nleF, ↓reduceIte, lgc, not_true_eq_false, not_false_eq_true, or_false, false_or, or_true, true_or, and_true, true_and, and_false, false_and, ne_eq, eq_self, or_self, and_self, h1]; done) | ((with_reducible refine wpf ?_ ?_); · simp (disch := first | omega | decide) only [↓neg1, nlit, rI, rL, rI2, rL1, nI_add, pk_mul, sbT, dvT, nmd, ixT, ↓ibT, ltT, ltF, leT, leF, eqT, eqF, nM_ltT, nM_ltF, nM_leT, nM_leF, nM_eqF, nM_eqF', nbT0, nbT1, oI_s, oI_n, natF, natT, nltT, nltF, nleT, nleF, ↓reduceIte, lgc, not_true_eq_false, not_false_eq_true, or_false, false_or, or_true, true_or, and_true, true_and, and_false, false_and, ne_eq, eq_self, or_self, and_self, h1]; done))
    refine ⟨⟨?_, fun i hi hi8 => ?_⟩, sx_rfl⟩
    · rw [h1, List.length_append, Nat.min_eq_right (by omega)]
    · rw [gd_app, if_neg (by omega)]
      exact h2 i (by omega) hi8
  · rw [Nat.min_eq_left (by omega)] at h1
    (try dsimp only); repeat (first | with_reducible refine wpl ?_ | with_reducible refine wpj ?_ | with_reducible refine wpSl ?_ | with_reducible refine wpSr ?_ | with_reducible refine wpS ?_ | ((with_reducible refine wpt ?_ ?_); · simp (disch := first | omega | decide) only [↓neg1, nlit, rI, rL, rI2, rL1, nI_add, pk_mul, sbT, dvT, nmd, ixT, ↓ibT, ltT, ltF, leT, leF, eqT, eqF, nM_ltT, nM_ltF, nM_leT, nM_leF, nM_eqF, nM_eqF', nbT0, nbT1, oI_s, oI_n, natF, natT, nltT, nltF, nleT, nleF, ↓reduceIte, lgc, not_true_eq_false, not_false_eq_true, or_false, false_or, or_true, true_or, and_true, true_and, and_false, false_and, ne_eq, eq_self, or_self, and_self, h1]; done) | ((with_reducible refine wpf ?_ ?_); · simp (disch := first | omega | decide) only [↓neg1, nlit, rI, rL, rI2, rL1, nI_add, pk_mul, sbT, dvT, nmd, ixT, ↓ibT, ltT, ltF, leT, leF, eqT, eqF, nM_ltT, nM_ltF, nM_leT, nM_leF, nM_eqF, nM_eqF', nbT0, nbT1, oI_s, oI_n, natF, natT, nltT, nltF, nleT, nleF, ↓reduceIte, lgc, not_true_eq_false, not_false_eq_true, or_false, false_or, or_true, true_or, and_true, true_and, and_false, false_and, ne_eq, eq_self, or_self, and_self, h1]; done))
    refine ⟨⟨?_, fun i hi hi8 => ?_⟩, sx_pI (sx_pI sx_rfl rfl) rfl⟩
    · rw [List.length_append, Nat.min_eq_left (by simp; omega)]
      simp (disch := first | omega | decide) only [↓neg1, nlit, rI, rL, rI2, rL1, nI_add, pk_mul, sbT, dvT, nmd, ixT, ↓ibT, ltT, ltF, leT, leF, eqT, eqF, nM_ltT, nM_ltF, nM_leT, nM_leF, nM_eqF, nM_eqF', nbT0, nbT1, oI_s, oI_n, natF, natT, nltT, nltF, nleT, nleF, ↓reduceIte, lgc, not_true_eq_false, not_false_eq_true, or_false, false_or, or_true, true_or, and_true, true_and, and_false, false_and, ne_eq, eq_self, or_self, and_self, h1]
      rfl
    · rw [gd_app]
      show (pI (pI c 172 1 _) 173 (ix (c.1 172 1)) _).1 173 i &&& 255 = _
      rw [rI, h1, ix_n (by omega)]
      by_cases e : i = L.length
      · rw [if_pos ⟨rfl, e⟩, if_pos e]
        exact by255 hb
      · rw [if_neg (fun z => e z.2), if_neg e, rI, if_neg (by omega)]
        rw [List.length_append] at hi
        exact h2 i (by simp at hi; omega) hi8
theorem e357 {n b : Nat} {u : cS} {L : List Nat} (hb : b < 256) (h : OM u L) : wp (d_357 n (nI b) u) (fun d => OM d (L ++ [b]) ∧ sx pO u d) := by
  obtain ⟨h1, h2⟩ := h
  unfold d_357
  by_cases hl : 8000 ≤ L.length
  · rw [Nat.min_eq_right hl] at h1
    (try dsimp only); repeat (first | with_reducible refine wpl ?_ | with_reducible refine wpj ?_ | with_reducible refine wpSl ?_ | with_reducible refine wpSr ?_ | with_reducible refine wpS ?_ | ((with_reducible refine wpt ?_ ?_); · simp (disch := first | omega | decide) only [↓neg1, nlit, rI, rL, rI2, rL1, nI_add, pk_mul, sbT, dvT, nmd, ixT, ↓ibT, ltT, ltF, leT, leF, eqT, eqF, nM_ltT, nM_ltF, nM_leT, nM_leF, nM_eqF, nM_eqF', nbT0, nbT1, oI_s, oI_n, natF, natT, nltT, nltF, nleT, nleF, ↓reduceIte, lgc, not_true_eq_false, not_false_eq_true, or_false, false_or, or_true, true_or, and_true, true_and, and_false, false_and, ne_eq, eq_self, or_self, and_self, h1]; done) | ((with_reducible refine wpf ?_ ?_); · simp (disch := first | omega | decide) only [↓neg1, nlit, rI, rL, rI2, rL1, nI_add, pk_mul, sbT, dvT, nmd, ixT, ↓ibT, ltT, ltF, leT, leF, eqT, eqF, nM_ltT, nM_ltF, nM_leT, nM_leF, nM_eqF, nM_eqF', nbT0, nbT1, oI_s, oI_n, natF, natT, nltT, nltF, nleT, nleF, ↓reduceIte, lgc, not_true_eq_false, not_false_eq_true, or_false, false_or, or_true, true_or, and_true, true_and, and_false, false_and, ne_eq, eq_self, or_self, and_self, h1]; done))
    refine ⟨⟨?_, fun i hi hi8 => ?_⟩, sx_rfl⟩
    · rw [h1, List.length_append, Nat.min_eq_right (by omega)]
    · rw [gd_app, if_neg (by omega)]
      exact h2 i (by omega) hi8
  · rw [Nat.min_eq_left (by omega)] at h1
    (try dsimp only); repeat (first | with_reducible refine wpl ?_ | with_reducible refine wpj ?_ | with_reducible refine wpSl ?_ | with_reducible refine wpSr ?_ | with_reducible refine wpS ?_ | ((with_reducible refine wpt ?_ ?_); · simp (disch := first | omega | decide) only [↓neg1, nlit, rI, rL, rI2, rL1, nI_add, pk_mul, sbT, dvT, nmd, ixT, ↓ibT, ltT, ltF, leT, leF, eqT, eqF, nM_ltT, nM_ltF, nM_leT, nM_leF, nM_eqF, nM_eqF', nbT0, nbT1, oI_s, oI_n, natF, natT, nltT, nltF, nleT, nleF, ↓reduceIte, lgc, not_true_eq_false, not_false_eq_true, or_false, false_or, or_true, true_or, and_true, true_and, and_false, false_and, ne_eq, eq_self, or_self, and_self, h1]; done) | ((with_reducible refine wpf ?_ ?_); · simp (disch := first | omega | decide) only [↓neg1, nlit, rI, rL, rI2, rL1, nI_add, pk_mul, sbT, dvT, nmd, ixT, ↓ibT, ltT, ltF, leT, leF, eqT, eqF, nM_ltT, nM_ltF, nM_leT, nM_leF, nM_eqF, nM_eqF', nbT0, nbT1, oI_s, oI_n, natF, natT, nltT, nltF, nleT, nleF, ↓reduceIte, lgc, not_true_eq_false, not_false_eq_true, or_false, false_or, or_true, true_or, and_true, true_and, and_false, false_and, ne_eq, eq_self, or_self, and_self, h1]; done))
    refine ⟨⟨?_, fun i hi hi8 => ?_⟩, sx_pI (sx_pI sx_rfl rfl) rfl⟩
    · rw [List.length_append, Nat.min_eq_left (by simp; omega)]
      simp (disch := first | omega | decide) only [↓neg1, nlit, rI, rL, rI2, rL1, nI_add, pk_mul, sbT, dvT, nmd, ixT, ↓ibT, ltT, ltF, leT, leF, eqT, eqF, nM_ltT, nM_ltF, nM_leT, nM_leF, nM_eqF, nM_eqF', nbT0, nbT1, oI_s, oI_n, natF, natT, nltT, nltF, nleT, nleF, ↓reduceIte, lgc, not_true_eq_false, not_false_eq_true, or_false, false_or, or_true, true_or, and_true, true_and, and_false, false_and, ne_eq, eq_self, or_self, and_self, h1]
      rfl
    · rw [gd_app]
      show (pI (pI u 176 (ix (u.1 174 4)) _) 174 4 _).1 176 i = _
      rw [rI, if_neg (by omega), rI, h1, ix_n (by omega)]
      by_cases e : i = L.length
      · rw [if_pos ⟨rfl, e⟩, if_pos e]
        exact an255 hb
      · rw [if_neg (fun z => e z.2), if_neg e]
        rw [List.length_append] at hi
        exact h2 i (by simp at hi; omega) hi8
/-- the bytes of a long, the highest first -/
def bz8 (v : Int64) (s : Nat) : Nat := v.toBitVec.toNat / 2 ^ s % 256
theorem bz8_lt (v : Int64) (s : Nat) : bz8 v s < 256 := Nat.mod_lt _ (by decide)
def sgK (v : Int64) : Nat → List Nat
  | 0 => []
  | k + 1 => sgK v k ++ (if bz8 v (56 - 8 * k) = 0 then [] else [bz8 v (56 - 8 * k)])
def sg (v : Int64) : List Nat := sgK v 8
theorem ush8 {v : Int64} {s : Nat} (hs : s < 64) : (((v.toUInt64 >>> ((nI s).toInt64.toUInt64 &&& Int64.toUInt64 63)).toInt64).toInt32 &&& 255) = nI (bz8 v s) := by
  have h1 : ∀ q : Fin 64, ((nI q.1).toInt64.toUInt64 &&& Int64.toUInt64 63) = UInt64.ofNat q.1 := by decide +kernel
  rw [h1 ⟨s, hs⟩, pk_and _ 8 (by decide)]
  unfold bz8
  refine congrArg nI ?_
  have h2 : ((v.toUInt64 >>> UInt64.ofNat s).toInt64.toInt32).toBitVec.toNat = v.toBitVec.toNat / 2 ^ s % 2 ^ 32 := by
    rw [Int64.toBitVec_toInt32, BitVec.signExtend_eq_setWidth_of_le _ (by decide), BitVec.toNat_setWidth]
    congr 1
    show (v.toUInt64 >>> UInt64.ofNat s).toBitVec.toNat = _
    rw [UInt64.toBitVec_shiftRight, BitVec.ushiftRight_eq', BitVec.toNat_ushiftRight, Nat.shiftRight_eq_div_pow]
    congr 2
    have h3 : ∀ q : Fin 64, ((UInt64.ofNat q.1).toBitVec % 64).toNat = q.1 := by decide +kernel
    exact h3 ⟨s, hs⟩
  show ((v.toUInt64 >>> UInt64.ofNat s).toInt64.toInt32).toBitVec.toNat % 2 ^ 8 = _
  rw [h2]
  omega
theorem ssh8 {v : Int64} {s : Nat} (hs : s ≤ 56) : ((v >>> ((nI s).toInt64 &&& 63)) &&& 255) = Int64.ofNat (bz8 v s) := by
  have h1 : ∀ q : Fin 64, ((nI q.1).toInt64 &&& 63).toBitVec.smod 64 = BitVec.ofNat 64 q.1 := by decide +kernel
  have h2 : ∀ q : Fin 64, (255 : Int64).toBitVec.getLsbD q.1 = decide (q.1 < 8) := by decide +kernel
  refine Int64.toBitVec_inj.mp (BitVec.eq_of_getLsbD_eq fun i hi => ?_)
  rw [Int64.toBitVec_and, BitVec.getLsbD_and, h2 ⟨i, hi⟩, Int64.toBitVec_shiftRight, h1 ⟨s, by omega⟩, BitVec.sshiftRight_eq', BitVec.toNat_ofNat, BitVec.getLsbD_sshiftRight, Int64.toBitVec_ofNat', BitVec.getLsbD_ofNat]
  unfold bz8
  rw [show (256 : Nat) = 2 ^ 8 from rfl, Nat.testBit_mod_two_pow, Nat.testBit_div_two_pow, Nat.mod_eq_of_lt (show s < 2 ^ 64 by omega)]
  by_cases h8 : i < 8
  · rw [if_pos (by omega), decide_eq_true h8, decide_eq_true hi, decide_eq_false (show ¬ 64 ≤ i by omega), Nat.add_comm s i]
    simp
    rfl
  · rw [decide_eq_false h8]
    simp
theorem in32 {b : Nat} (h : b < 256) : (Int64.ofNat b).toInt32 = nI b ∧ (lg_cmp (Int64.ofNat b) 0 = nI 0) = (b = 0) := by
  have h1 : ∀ q : Fin 256, (Int64.ofNat q.1).toInt32 = nI q.1 := by decide +kernel
  have h2 : ∀ q : Fin 256, (lg_cmp (Int64.ofNat q.1) 0 = nI 0) ↔ (q.1 = 0) := by decide +kernel
  exact ⟨h1 ⟨b, h⟩, propext (h2 ⟨b, h⟩)⟩
def sf (k : Nat) : Int32 := Int32.ofInt (56 - 8 * (k : Int))
theorem sf_at {k : Nat} (h : k < 8) : sf k = nI (56 - 8 * k) ∧ (sf k < 0) = False ∧ sf k + (-8) = sf (k + 1) := by
  have h1 : ∀ q : Fin 8, sf q.1 = nI (56 - 8 * q.1) := by decide +kernel
  have h2 : ∀ q : Fin 8, ¬ sf q.1 < 0 := by decide +kernel
  have h3 : ∀ q : Fin 8, sf q.1 + (-8) = sf (q.1 + 1) := by decide +kernel
  exact ⟨h1 ⟨k, h⟩, eq_false (h2 ⟨k, h⟩), h3 ⟨k, h⟩⟩
theorem e318 {n : Nat} {v : Int64} {c : cS} {L : List Nat} (hn : 1000 ≤ n) (h : OC c L) : wp (d_318 n v c) (fun d => OC d (L ++ sg v) ∧ sx qO c d) := by
  unfold d_318
  refine wpc (K' := fun d : cS => OC d (L ++ sg v) ∧ sx qO c d) (whl_cnt (fun k (st : Int32 × cS) => st.1 = sf k ∧ OC st.2 (L ++ sgK v k) ∧ sx qO c st.2) 8 ?_ ?_ (by omega) ⟨rfl, by unfold sgK; rw [List.append_nil]; exact h, sx_rfl⟩) (fun d hd => hd)
  · rintro k ⟨a, w⟩ hk ⟨g1, g2, g3⟩
    dsimp only at g1 g2 g3
    subst g1
    obtain ⟨f1, f2, f3⟩ := sf_at hk
    have hb := bz8_lt v (56 - 8 * k)
    dsimp only
    refine wpf (by rw [f2]; exact id) ?_
    refine wpl (wpj ?_)
    rw [f3, f1, ush8 (by omega)]
    by_cases h0 : bz8 v (56 - 8 * k) = 0
    · (try dsimp only); repeat (first | with_reducible refine wpl ?_ | with_reducible refine wpj ?_ | with_reducible refine wpSl ?_ | with_reducible refine wpSr ?_ | with_reducible refine wpS ?_ | ((with_reducible refine wpt ?_ ?_); · simp (disch := first | omega | decide) only [↓neg1, nlit, rI, rL, rI2, rL1, nI_add, pk_mul, sbT, dvT, nmd, ixT, ↓ibT, ltT, ltF, leT, leF, eqT, eqF, nM_ltT, nM_ltF, nM_leT, nM_leF, nM_eqF, nM_eqF', nbT0, nbT1, oI_s, oI_n, natF, natT, nltT, nltF, nleT, nleF, ↓reduceIte, lgc, not_true_eq_false, not_false_eq_true, or_false, false_or, or_true, true_or, and_true, true_and, and_false, false_and, ne_eq, eq_self, or_self, and_self, h0]; done) | ((with_reducible refine wpf ?_ ?_); · simp (disch := first | omega | decide) only [↓neg1, nlit, rI, rL, rI2, rL1, nI_add, pk_mul, sbT, dvT, nmd, ixT, ↓ibT, ltT, ltF, leT, leF, eqT, eqF, nM_ltT, nM_ltF, nM_leT, nM_leF, nM_eqF, nM_eqF', nbT0, nbT1, oI_s, oI_n, natF, natT, nltT, nltF, nleT, nleF, ↓reduceIte, lgc, not_true_eq_false, not_false_eq_true, or_false, false_or, or_true, true_or, and_true, true_and, and_false, false_and, ne_eq, eq_self, or_self, and_self, h0]; done))
      refine ⟨rfl, ?_, g3⟩
      unfold sgK
      rw [if_pos h0, List.append_nil]
      exact g2
    · (try dsimp only); repeat (first | with_reducible refine wpl ?_ | with_reducible refine wpj ?_ | with_reducible refine wpSl ?_ | with_reducible refine wpSr ?_ | with_reducible refine wpS ?_ | ((with_reducible refine wpt ?_ ?_); · simp (disch := first | omega | decide) only [↓neg1, nlit, rI, rL, rI2, rL1, nI_add, pk_mul, sbT, dvT, nmd, ixT, ↓ibT, ltT, ltF, leT, leF, eqT, eqF, nM_ltT, nM_ltF, nM_leT, nM_leF, nM_eqF, nM_eqF', nbT0, nbT1, oI_s, oI_n, natF, natT, nltT, nltF, nleT, nleF, ↓reduceIte, lgc, not_true_eq_false, not_false_eq_true, or_false, false_or, or_true, true_or, and_true, true_and, and_false, false_and, ne_eq, eq_self, or_self, and_self, h0]; done) | ((with_reducible refine wpf ?_ ?_); · simp (disch := first | omega | decide) only [↓neg1, nlit, rI, rL, rI2, rL1, nI_add, pk_mul, sbT, dvT, nmd, ixT, ↓ibT, ltT, ltF, leT, leF, eqT, eqF, nM_ltT, nM_ltF, nM_leT, nM_leF, nM_eqF, nM_eqF', nbT0, nbT1, oI_s, oI_n, natF, natT, nltT, nltF, nleT, nleF, ↓reduceIte, lgc, not_true_eq_false, not_false_eq_true, or_false, false_or, or_true, true_or, and_true, true_and, and_false, false_and, ne_eq, eq_self, or_self, and_self, h0]; done))
      refine wpc (e317 hb g2) (fun d hd => ?_)
      (try dsimp only); repeat (first | with_reducible refine wpl ?_ | with_reducible refine wpj ?_ | with_reducible refine wpSl ?_ | with_reducible refine wpSr ?_ | with_reducible refine wpS ?_ | ((with_reducible refine wpt ?_ ?_); · simp (disch := first | omega | decide) only [↓neg1, nlit, rI, rL, rI2, rL1, nI_add, pk_mul, sbT, dvT, nmd, ixT, ↓ibT, ltT, ltF, leT, leF, eqT, eqF, nM_ltT, nM_ltF, nM_leT, nM_leF, nM_eqF, nM_eqF', nbT0, nbT1, oI_s, oI_n, natF, natT, nltT, nltF, nleT, nleF, ↓reduceIte, lgc, not_true_eq_false, not_false_eq_true, or_false, false_or, or_true, true_or, and_true, true_and, and_false, false_and, ne_eq, eq_self, or_self, and_self]; done) | ((with_reducible refine wpf ?_ ?_); · simp (disch := first | omega | decide) only [↓neg1, nlit, rI, rL, rI2, rL1, nI_add, pk_mul, sbT, dvT, nmd, ixT, ↓ibT, ltT, ltF, leT, leF, eqT, eqF, nM_ltT, nM_ltF, nM_leT, nM_leF, nM_eqF, nM_eqF', nbT0, nbT1, oI_s, oI_n, natF, natT, nltT, nltF, nleT, nleF, ↓reduceIte, lgc, not_true_eq_false, not_false_eq_true, or_false, false_or, or_true, true_or, and_true, true_and, and_false, false_and, ne_eq, eq_self, or_self, and_self]; done))
      refine ⟨rfl, ?_, sx_trans g3 hd.2⟩
      unfold sgK
      rw [if_neg h0, ← List.append_assoc]
      exact hd.1
  · rintro ⟨a, w⟩ ⟨g1, g2, g3⟩
    dsimp only at g1 g2 g3
    subst g1
    exact wpt (show sf 8 < 0 by decide) ⟨g2, g3⟩
theorem e358 {n : Nat} {v : Int64} {u : cS} {L : List Nat} (hn : 1000 ≤ n) (h : OM u L) : wp (d_358 n v u) (fun d => OM d (L ++ sg v) ∧ sx pO u d) := by
  unfold d_358
  refine wpc (K' := fun d : cS => OM d (L ++ sg v) ∧ sx pO u d) (whl_cnt (fun k (st : Int32 × cS) => st.1 = sf k ∧ OM st.2 (L ++ sgK v k) ∧ sx pO u st.2) 8 ?_ ?_ (by omega) ⟨rfl, by unfold sgK; rw [List.append_nil]; exact h, sx_rfl⟩) (fun d hd => hd)
  · rintro k ⟨a, w⟩ hk ⟨g1, g2, g3⟩
    dsimp only at g1 g2 g3
    subst g1
    obtain ⟨f1, f2, f3⟩ := sf_at hk
    have hb := bz8_lt v (56 - 8 * k)
    dsimp only
    refine wpf (by rw [f2]; exact id) ?_
    refine wpj ?_
    rw [f3, f1, ssh8 (by omega), (in32 hb).1]
    have h00 := (in32 hb).2
    by_cases h0 : bz8 v (56 - 8 * k) = 0
    · refine wpt (show lg_cmp _ 0 = nI 0 by rw [h00]; exact h0) ?_
      (try dsimp only); repeat (first | with_reducible refine wpl ?_ | with_reducible refine wpj ?_ | with_reducible refine wpSl ?_ | with_reducible refine wpSr ?_ | with_reducible refine wpS ?_ | ((with_reducible refine wpt ?_ ?_); · simp (disch := first | omega | decide) only [↓neg1, nlit, rI, rL, rI2, rL1, nI_add, pk_mul, sbT, dvT, nmd, ixT, ↓ibT, ltT, ltF, leT, leF, eqT, eqF, nM_ltT, nM_ltF, nM_leT, nM_leF, nM_eqF, nM_eqF', nbT0, nbT1, oI_s, oI_n, natF, natT, nltT, nltF, nleT, nleF, ↓reduceIte, lgc, not_true_eq_false, not_false_eq_true, or_false, false_or, or_true, true_or, and_true, true_and, and_false, false_and, ne_eq, eq_self, or_self, and_self]; done) | ((with_reducible refine wpf ?_ ?_); · simp (disch := first | omega | decide) only [↓neg1, nlit, rI, rL, rI2, rL1, nI_add, pk_mul, sbT, dvT, nmd, ixT, ↓ibT, ltT, ltF, leT, leF, eqT, eqF, nM_ltT, nM_ltF, nM_leT, nM_leF, nM_eqF, nM_eqF', nbT0, nbT1, oI_s, oI_n, natF, natT, nltT, nltF, nleT, nleF, ↓reduceIte, lgc, not_true_eq_false, not_false_eq_true, or_false, false_or, or_true, true_or, and_true, true_and, and_false, false_and, ne_eq, eq_self, or_self, and_self]; done))
      refine ⟨rfl, ?_, g3⟩
      unfold sgK
      rw [if_pos h0, List.append_nil]
      exact g2
    · refine wpf (show ¬ lg_cmp _ 0 = nI 0 by rw [h00]; exact h0) ?_
      refine wpc (e357 hb g2) (fun d hd => ?_)
      (try dsimp only); repeat (first | with_reducible refine wpl ?_ | with_reducible refine wpj ?_ | with_reducible refine wpSl ?_ | with_reducible refine wpSr ?_ | with_reducible refine wpS ?_ | ((with_reducible refine wpt ?_ ?_); · simp (disch := first | omega | decide) only [↓neg1, nlit, rI, rL, rI2, rL1, nI_add, pk_mul, sbT, dvT, nmd, ixT, ↓ibT, ltT, ltF, leT, leF, eqT, eqF, nM_ltT, nM_ltF, nM_leT, nM_leF, nM_eqF, nM_eqF', nbT0, nbT1, oI_s, oI_n, natF, natT, nltT, nltF, nleT, nleF, ↓reduceIte, lgc, not_true_eq_false, not_false_eq_true, or_false, false_or, or_true, true_or, and_true, true_and, and_false, false_and, ne_eq, eq_self, or_self, and_self]; done) | ((with_reducible refine wpf ?_ ?_); · simp (disch := first | omega | decide) only [↓neg1, nlit, rI, rL, rI2, rL1, nI_add, pk_mul, sbT, dvT, nmd, ixT, ↓ibT, ltT, ltF, leT, leF, eqT, eqF, nM_ltT, nM_ltF, nM_leT, nM_leF, nM_eqF, nM_eqF', nbT0, nbT1, oI_s, oI_n, natF, natT, nltT, nltF, nleT, nleF, ↓reduceIte, lgc, not_true_eq_false, not_false_eq_true, or_false, false_or, or_true, true_or, and_true, true_and, and_false, false_and, ne_eq, eq_self, or_self, and_self]; done))
      refine ⟨rfl, ?_, sx_trans g3 hd.2⟩
      unfold sgK
      rw [if_neg h0, ← List.append_assoc]
      exact hd.1
  · rintro ⟨a, w⟩ ⟨g1, g2, g3⟩
    dsimp only at g1 g2 g3
    subst g1
    exact wpt (show sf 8 < 0 by decide) ⟨g2, g3⟩
