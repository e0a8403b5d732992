/-! EFFECTIVE MARKS: the class's -/
theorem RGv {c m : cS} {k t : Nat} (hK : KKS c m) (hk : k < kcn m) (ht : isKy m t) : c.1 (kA k + 5) (kyS t) = oX c (gv m (kyN m t) k) := by
  have h := hK.2.2.2.2.2.2.2 k t hk ht
  unfold RG at h
  split at h
  · rename_i e
    rw [e]
    exact h
  · rename_i y e
    obtain ⟨d, i, h1, h2, h3, h4⟩ := h
    have := (hK.2.2.2.2.2.1 d h1).1.1
    rw [e, h4, h3]
    show _ = nI (xi c _)
    rw [xi_at (by omega)]
theorem e219 {n k t : Nat} {c m : cS} (hO : OOS c m) (hK : KKS c m) (hk : k < kcn m) (ht : isKy m t) : d_219 n k (nI t) c = some (oX c (gv m (kyN m t) k)) := by
  have h1 := hO.1
  have h2 := hK.1
  rw [← RGv hK hk ht]
  unfold d_219 kyS
  rcases ht with h | h
  · simp (disch := first | omega | decide) only [↓neg1, nlit, rI, rL, rI2, rL1, nI_add, pk_mul, sbT, dvT, nmd, ixT, ↓ibT, ltT, ltF, leT, leF, eqT, eqF, nM_ltT, nM_ltF, nM_leT, nM_leF, nM_eqF, nM_eqF', nbT0, nbT1, oI_s, oI_n, natF, natT, nltT, nltF, nleT, nleF, ↓reduceIte, lgc, not_true_eq_false, not_false_eq_true, or_false, false_or, or_true, true_or, and_true, true_and, and_false, false_and, ne_eq, eq_self, or_self, and_self, obs, ↓jn, ↓lt, ↓reduceIte, decide_true, decide_false, Bool.false_eq_true, Bool.and_true, Bool.and_false, Bool.true_and, Bool.false_and, Bool.or_false, Bool.false_or, Bool.or_true, Bool.true_or]
  · simp (disch := first | omega | decide) only [↓neg1, nlit, rI, rL, rI2, rL1, nI_add, pk_mul, sbT, dvT, nmd, ixT, ↓ibT, ltT, ltF, leT, leF, eqT, eqF, nM_ltT, nM_ltF, nM_leT, nM_leF, nM_eqF, nM_eqF', nbT0, nbT1, oI_s, oI_n, natF, natT, nltT, nltF, nleT, nleF, ↓reduceIte, lgc, not_true_eq_false, not_false_eq_true, or_false, false_or, or_true, true_or, and_true, true_and, and_false, false_and, ne_eq, eq_self, or_self, and_self, obs, ↓jn, ↓lt, ↓reduceIte, decide_true, decide_false, Bool.false_eq_true, Bool.and_true, Bool.and_false, Bool.true_and, Bool.false_and, Bool.or_false, Bool.false_or, Bool.or_true, Bool.true_or]
    all_goals exact congrArg (fun z => some (c.1 (kA k + 5) z)) (by omega)
/-- a MARK of a PLACE -/
theorem EC_mk {c m : cS} {p s i : Nat} (h : EC c m) (hP : isP m p s) (hi : i < mz m p) : ch c p i = nI (mi c p i) ∧ mi c p i < 4096 ∧ MKR c m (mi c p i) (p * 20 + i) ∧ c.1 137 (mi c p i) = (if dcn m p i = true then nI 1 else nI 0) ∧ xi c (p * 20 + i) = mi c p i := by
  obtain ⟨⟨r1, r2, r3, r4⟩, r5⟩ := h.2.2.2 p s hP
  exact ⟨(r4 i hi).1, (r4 i hi).2.1, (r4 i hi).2, r5 i hi, xi_at (by omega)⟩
theorem EC_sz {c m : cS} {p s : Nat} (h : EC c m) (hP : isP m p s) : p < 1200 ∧ mz m p ≤ 20 ∧ c.1 144 p = nI (mz m p) := by
  obtain ⟨⟨r1, r2, r3, r4⟩, r5⟩ := h.2.2.2 p s hP
  exact ⟨(EC_row h hP).1, r1, r3⟩
theorem gb_t {m : cS} {p i : Nat} {v : Int64} (h0 : m.1 224 (p * 20 + i) = nI 0) (hd : dcn m p i = true) : gb m p i v = (kOf m (m.2 223 (p * 20 + i))).bind (gv m v) := if_pos ⟨h0, hd⟩
theorem gb_f {m : cS} {p i : Nat} {v : Int64} (h : ¬ (m.1 224 (p * 20 + i) = nI 0 ∧ dcn m p i = true)) : gb m p i v = none := if_neg h
theorem e183 {n p s i t : Nat} {c m : cS} (h : EC c m) (hP : isP m p s) (hi : i < mz m p) (ht : isKy m t) : d_183 n (nI (mi c p i)) (nI t) c = some (oX c (gb m p i (kyN m t))) := by
  obtain ⟨a1, a2, a3, a4, -⟩ := EC_mk h hP hi
  obtain ⟨hO, hK, -, -⟩ := id h
  have k1 := hK.1
  have k5 := hK.2.2.2.2.1
  have e227' := e227 (n := n) a3
  have hnb := a3.2.2.2.1
  have htg := a3.2.2.1
  unfold d_183
  by_cases hd : dcn m p i = true
  · rw [if_pos hd] at a4
    by_cases h0 : m.1 224 (p * 20 + i) = nI 0
    · rw [gb_t h0 hd]
      cases ho : oOf m (m.2 223 (p * 20 + i)) with
      | some o =>
        have := (oOf_lt ho).1
        have := hO.1
        rw [tOf_o ho] at htg
        have htg : c.1 135 (mi c p i) = nI (100 + o) := htg
        rw [NMS_ok k5 ho]
        simp (disch := first | omega | decide) only [↓neg1, nlit, rI, rL, rI2, rL1, nI_add, pk_mul, sbT, dvT, nmd, ixT, ↓ibT, ltT, ltF, leT, leF, eqT, eqF, nM_ltT, nM_ltF, nM_leT, nM_leF, nM_eqF, nM_eqF', nbT0, nbT1, oI_s, oI_n, natF, natT, nltT, nltF, nleT, nleF, ↓reduceIte, lgc, not_true_eq_false, not_false_eq_true, or_false, false_or, or_true, true_or, and_true, true_and, and_false, false_and, ne_eq, eq_self, or_self, and_self, obs, ↓jn, ↓lt, ↓reduceIte, decide_true, decide_false, Bool.false_eq_true, Bool.and_true, Bool.and_false, Bool.true_and, Bool.false_and, Bool.or_false, Bool.false_or, Bool.or_true, Bool.true_or, a4, e227', h0, htg]
        all_goals rfl
      | none =>
        rw [tOf_k ho] at htg
        cases hk : kOf m (m.2 223 (p * 20 + i)) with
        | none => rw [dcn_n ho hk] at hd; cases hd
        | some k =>
          have hk' := (kOf_lt hk).1
          rw [hk] at htg
          have htg : c.1 135 (mi c p i) = nI k := htg
          simp (disch := first | omega | decide) only [↓neg1, nlit, rI, rL, rI2, rL1, nI_add, pk_mul, sbT, dvT, nmd, ixT, ↓ibT, ltT, ltF, leT, leF, eqT, eqF, nM_ltT, nM_ltF, nM_leT, nM_leF, nM_eqF, nM_eqF', nbT0, nbT1, oI_s, oI_n, natF, natT, nltT, nltF, nleT, nleF, ↓reduceIte, lgc, not_true_eq_false, not_false_eq_true, or_false, false_or, or_true, true_or, and_true, true_and, and_false, false_and, ne_eq, eq_self, or_self, and_self, obs, ↓jn, ↓lt, ↓reduceIte, decide_true, decide_false, Bool.false_eq_true, Bool.and_true, Bool.and_false, Bool.true_and, Bool.false_and, Bool.or_false, Bool.false_or, Bool.or_true, Bool.true_or, a4, e227', h0, htg, e219 hO hK hk' ht]
          all_goals rfl
    · rw [gb_f (fun z => h0 z.1)]
      simp (disch := first | omega | decide) only [↓neg1, nlit, rI, rL, rI2, rL1, nI_add, pk_mul, sbT, dvT, nmd, ixT, ↓ibT, ltT, ltF, leT, leF, eqT, eqF, nM_ltT, nM_ltF, nM_leT, nM_leF, nM_eqF, nM_eqF', nbT0, nbT1, oI_s, oI_n, natF, natT, nltT, nltF, nleT, nleF, ↓reduceIte, lgc, not_true_eq_false, not_false_eq_true, or_false, false_or, or_true, true_or, and_true, true_and, and_false, false_and, ne_eq, eq_self, or_self, and_self, obs, ↓jn, ↓lt, ↓reduceIte, decide_true, decide_false, Bool.false_eq_true, Bool.and_true, Bool.and_false, Bool.true_and, Bool.false_and, Bool.or_false, Bool.false_or, Bool.or_true, Bool.true_or, a4, e227', nb0 hnb h0]
      all_goals rfl
  · rw [if_neg hd] at a4
    rw [gb_f (fun z => hd z.2)]
    simp (disch := first | omega | decide) only [↓neg1, nlit, rI, rL, rI2, rL1, nI_add, pk_mul, sbT, dvT, nmd, ixT, ↓ibT, ltT, ltF, leT, leF, eqT, eqF, nM_ltT, nM_ltF, nM_leT, nM_leF, nM_eqF, nM_eqF', nbT0, nbT1, oI_s, oI_n, natF, natT, nltT, nltF, nleT, nleF, ↓reduceIte, lgc, not_true_eq_false, not_false_eq_true, or_false, false_or, or_true, true_or, and_true, true_and, and_false, false_and, ne_eq, eq_self, or_self, and_self, obs, ↓jn, ↓lt, ↓reduceIte, decide_true, decide_false, Bool.false_eq_true, Bool.and_true, Bool.and_false, Bool.true_and, Bool.false_and, Bool.or_false, Bool.false_or, Bool.or_true, Bool.true_or, a4]
    all_goals rfl
/-- what is GIVEN stands in a KIND's row -/
theorem gb_in {c m : cS} {p i y : Nat} {v : Int64} (hK : KKS c m) (hg : gb m p i v = some y) : ∃ d j, d < kcn m ∧ j < mz m (1200 + d) ∧ y = (1200 + d) * 20 + j := by
  unfold gb at hg
  split at hg
  · cases hkk : kOf m (m.2 223 (p * 20 + i)) with
    | none =>
      rw [hkk] at hg
      cases hg
    | some d =>
      rw [hkk] at hg
      exact gv_in hK.1 hg
  · cases hg
theorem gb_x {c m : cS} {p i y s : Nat} {v : Int64} (h : EC c m) (hP : isP m p s) (hi : i < mz m p) (hg : gb m p i v = some y) : xi c y < 4096 := by
  obtain ⟨d, j, h1, h2, h3⟩ := gb_in h.2.1 hg
  have hr := h.2.1.2.2.2.2.2.1 d h1
  have := hr.1.1
  rw [h3, xi_at (by omega)]
  exact (hr.1.2.2.2 j h2).2.1
theorem own_t {c m : cS} {p s i t : Nat} (h : EC c m) (hP : isP m p s) (hi : i < mz m p) (ht : isKy m t) : (c.1 135 (mi c p i) = nI t) = (m.2 223 (p * 20 + i) = kyN m t) := by
  obtain ⟨a1, a2, a3, a4, -⟩ := EC_mk h hP hi
  obtain ⟨hO, hK, -, -⟩ := id h
  have h104 := isKy_lt hK.1 hO.1 ht
  rw [a3.2.2.1]
  refine propext ⟨fun e => ?_, fun e => ?_⟩
  · refine (tOf_iff hK.2.2.2.2.1 hK.1 ht).mp ?_
    cases hq : tOf m (m.2 223 (p * 20 + i)) with
    | none =>
      rw [hq] at e
      exact absurd e (by rw [show oI none = nM from rfl, nM_eqF' (by omega)]; exact id)
    | some t' =>
      rw [hq] at e
      have := (tOf_lt hK.1 hO.1 hq).1
      exact congrArg some ((nI_eq (by omega) (by omega)).mp e)
  · rw [(tOf_iff hK.2.2.2.2.1 hK.1 ht).mpr e]
    rfl
theorem e181 {n p s t : Nat} {c m : cS} (hn : 1000 ≤ n) (h : EC c m) (hP : isP m p s) (ht : isKy m t) : d_181 n (nI p) (nI t) c = some (if 0 < own m p (kyN m t) then nI (own m p (kyN m t)) else if nos m p (kyN m t) = true then nM else nI 0) := by
  obtain ⟨s1, s2, s3⟩ := EC_sz h hP
  have hown : own m p (kyN m t) ≤ mz m p := cntN_le _
  unfold d_181
  simp (disch := first | omega | decide) only [↓neg1, nlit, rI, rL, rI2, rL1, nI_add, pk_mul, sbT, dvT, nmd, ixT, ↓ibT, ltT, ltF, leT, leF, eqT, eqF, nM_ltT, nM_ltF, nM_leT, nM_leF, nM_eqF, nM_eqF', nbT0, nbT1, oI_s, oI_n, natF, natT, nltT, nltF, nleT, nleF, ↓reduceIte, lgc, not_true_eq_false, not_false_eq_true, or_false, false_or, or_true, true_or, and_true, true_and, and_false, false_and, ne_eq, eq_self, or_self, and_self, obs, ↓jn, ↓lt, ↓reduceIte, decide_true, decide_false, Bool.false_eq_true, Bool.and_true, Bool.and_false, Bool.true_and, Bool.false_and, Bool.or_false, Bool.false_or, Bool.or_true, Bool.true_or]
  refine bwo (fun k => (nI (cntN (owB m p (kyN m t)) k), (if cntN (noB m p (kyN m t)) k ≠ 0 then nM else nI 0), ch c p k, nI k)) (nI (own m p (kyN m t)), (if nos m p (kyN m t) = true then nM else nI 0)) (cnt := mz m p) (by omega) rfl ?_ (fun i hi => ?_) ?_
  · simp (disch := first | omega | decide) only [↓neg1, nlit, rI, rL, rI2, rL1, nI_add, pk_mul, sbT, dvT, nmd, ixT, ↓ibT, ltT, ltF, leT, leF, eqT, eqF, nM_ltT, nM_ltF, nM_leT, nM_leF, nM_eqF, nM_eqF', nbT0, nbT1, oI_s, oI_n, natF, natT, nltT, nltF, nleT, nleF, ↓reduceIte, lgc, not_true_eq_false, not_false_eq_true, or_false, false_or, or_true, true_or, and_true, true_and, and_false, false_and, ne_eq, eq_self, or_self, and_self, obs, ↓jn, ↓lt, ↓reduceIte, decide_true, decide_false, Bool.false_eq_true, Bool.and_true, Bool.and_false, Bool.true_and, Bool.false_and, Bool.or_false, Bool.false_or, Bool.or_true, Bool.true_or, s3]
    unfold own nos
    by_cases hz : cntN (noB m p (kyN m t)) (mz m p) ≠ 0
    · rw [if_pos hz, decide_eq_true hz, if_pos rfl]
    · rw [if_neg hz, decide_eq_false hz, if_neg (by decide)]
  · obtain ⟨a1, a2, a3, a4, -⟩ := EC_mk h hP hi
    have ht' := own_t h hP hi ht
    have hnb := a3.2.2.2.1
    have e227' := e227 (n := n) a3
    by_cases hd : dcn m p i = true
    · rw [if_pos hd] at a4
      by_cases hv : m.2 223 (p * 20 + i) = kyN m t
      · by_cases h0 : m.1 224 (p * 20 + i) = nI 0
        · have ho : owB m p (kyN m t) i = true := by unfold owB; rw [hd, h0, decide_eq_true hv]; rfl
          have hno : noB m p (kyN m t) i = false := by unfold noB; rw [hd, h0, decide_eq_true hv]; rfl
          simp (disch := first | omega | decide) only [↓neg1, nlit, rI, rL, rI2, rL1, nI_add, pk_mul, sbT, dvT, nmd, ixT, ↓ibT, ltT, ltF, leT, leF, eqT, eqF, nM_ltT, nM_ltF, nM_leT, nM_leF, nM_eqF, nM_eqF', nbT0, nbT1, oI_s, oI_n, natF, natT, nltT, nltF, nleT, nleF, ↓reduceIte, lgc, not_true_eq_false, not_false_eq_true, or_false, false_or, or_true, true_or, and_true, true_and, and_false, false_and, ne_eq, eq_self, or_self, and_self, obs, ↓jn, ↓lt, ↓reduceIte, decide_true, decide_false, Bool.false_eq_true, Bool.and_true, Bool.and_false, Bool.true_and, Bool.false_and, Bool.or_false, Bool.false_or, Bool.or_true, Bool.true_or, s3, a1, a4, ht', hv, e227', h0, cntN_s, ho, hno, ch, Nat.add_zero]
        · have h1 := nb0 hnb h0
          have ho : owB m p (kyN m t) i = false := by unfold owB; rw [hd, h1, decide_eq_true hv]; rfl
          have hno : noB m p (kyN m t) i = true := by unfold noB; rw [hd, h1, decide_eq_true hv]; rfl
          simp (disch := first | omega | decide) only [↓neg1, nlit, rI, rL, rI2, rL1, nI_add, pk_mul, sbT, dvT, nmd, ixT, ↓ibT, ltT, ltF, leT, leF, eqT, eqF, nM_ltT, nM_ltF, nM_leT, nM_leF, nM_eqF, nM_eqF', nbT0, nbT1, oI_s, oI_n, natF, natT, nltT, nltF, nleT, nleF, ↓reduceIte, lgc, not_true_eq_false, not_false_eq_true, or_false, false_or, or_true, true_or, and_true, true_and, and_false, false_and, ne_eq, eq_self, or_self, and_self, obs, ↓jn, ↓lt, ↓reduceIte, decide_true, decide_false, Bool.false_eq_true, Bool.and_true, Bool.and_false, Bool.true_and, Bool.false_and, Bool.or_false, Bool.false_or, Bool.or_true, Bool.true_or, s3, a1, a4, ht', hv, e227', h1, cntN_s, ho, hno, ch, Nat.add_zero, Nat.add_one_ne_zero]
      · have ho : owB m p (kyN m t) i = false := by unfold owB; rw [decide_eq_false hv]; rfl
        have hno : noB m p (kyN m t) i = false := by unfold noB; rw [decide_eq_false hv]; rfl
        simp (disch := first | omega | decide) only [↓neg1, nlit, rI, rL, rI2, rL1, nI_add, pk_mul, sbT, dvT, nmd, ixT, ↓ibT, ltT, ltF, leT, leF, eqT, eqF, nM_ltT, nM_ltF, nM_leT, nM_leF, nM_eqF, nM_eqF', nbT0, nbT1, oI_s, oI_n, natF, natT, nltT, nltF, nleT, nleF, ↓reduceIte, lgc, not_true_eq_false, not_false_eq_true, or_false, false_or, or_true, true_or, and_true, true_and, and_false, false_and, ne_eq, eq_self, or_self, and_self, obs, ↓jn, ↓lt, ↓reduceIte, decide_true, decide_false, Bool.false_eq_true, Bool.and_true, Bool.and_false, Bool.true_and, Bool.false_and, Bool.or_false, Bool.false_or, Bool.or_true, Bool.true_or, s3, a1, a4, ht', hv, cntN_s, ho, hno, ch, Nat.add_zero]
    · rw [if_neg hd] at a4
      have hd' : dcn m p i = false := by simpa using hd
      have ho : owB m p (kyN m t) i = false := by unfold owB; rw [hd']; simp
      have hno : noB m p (kyN m t) i = false := by unfold noB; rw [hd']; simp
      simp (disch := first | omega | decide) only [↓neg1, nlit, rI, rL, rI2, rL1, nI_add, pk_mul, sbT, dvT, nmd, ixT, ↓ibT, ltT, ltF, leT, leF, eqT, eqF, nM_ltT, nM_ltF, nM_leT, nM_leF, nM_eqF, nM_eqF', nbT0, nbT1, oI_s, oI_n, natF, natT, nltT, nltF, nleT, nleF, ↓reduceIte, lgc, not_true_eq_false, not_false_eq_true, or_false, false_or, or_true, true_or, and_true, true_and, and_false, false_and, ne_eq, eq_self, or_self, and_self, obs, ↓jn, ↓lt, ↓reduceIte, decide_true, decide_false, Bool.false_eq_true, Bool.and_true, Bool.and_false, Bool.true_and, Bool.false_and, Bool.or_false, Bool.false_or, Bool.or_true, Bool.true_or, s3, a1, a4, cntN_s, ho, hno, ch, Nat.add_zero]
  · by_cases h1 : 0 < own m p (kyN m t)
    · simp (disch := first | omega | decide) only [↓neg1, nlit, rI, rL, rI2, rL1, nI_add, pk_mul, sbT, dvT, nmd, ixT, ↓ibT, ltT, ltF, leT, leF, eqT, eqF, nM_ltT, nM_ltF, nM_leT, nM_leF, nM_eqF, nM_eqF', nbT0, nbT1, oI_s, oI_n, natF, natT, nltT, nltF, nleT, nleF, ↓reduceIte, lgc, not_true_eq_false, not_false_eq_true, or_false, false_or, or_true, true_or, and_true, true_and, and_false, false_and, ne_eq, eq_self, or_self, and_self, obs, ↓jn, ↓lt, ↓reduceIte, decide_true, decide_false, Bool.false_eq_true, Bool.and_true, Bool.and_false, Bool.true_and, Bool.false_and, Bool.or_false, Bool.false_or, Bool.or_true, Bool.true_or, h1]
    · have h2 : own m p (kyN m t) = 0 := by omega
      simp (disch := first | omega | decide) only [↓neg1, nlit, rI, rL, rI2, rL1, nI_add, pk_mul, sbT, dvT, nmd, ixT, ↓ibT, ltT, ltF, leT, leF, eqT, eqF, nM_ltT, nM_ltF, nM_leT, nM_leF, nM_eqF, nM_eqF', nbT0, nbT1, oI_s, oI_n, natF, natT, nltT, nltF, nleT, nleF, ↓reduceIte, lgc, not_true_eq_false, not_false_eq_true, or_false, false_or, or_true, true_or, and_true, true_and, and_false, false_and, ne_eq, eq_self, or_self, and_self, obs, ↓jn, ↓lt, ↓reduceIte, decide_true, decide_false, Bool.false_eq_true, Bool.and_true, Bool.and_false, Bool.true_and, Bool.false_and, Bool.or_false, Bool.false_or, Bool.or_true, Bool.true_or, h2, Nat.lt_irrefl]
theorem e182 {n p s t : Nat} {c m : cS} (hn : 1000 ≤ n) (h : EC c m) (hP : isP m p s) (ht : isKy m t) : d_182 n (nI p) (nI t) c = some (oX c (gAt m p (kyN m t))) := by
  obtain ⟨s1, s2, s3⟩ := EC_sz h hP
  unfold d_182
  simp (disch := first | omega | decide) only [↓neg1, nlit, rI, rL, rI2, rL1, nI_add, pk_mul, sbT, dvT, nmd, ixT, ↓ibT, ltT, ltF, leT, leF, eqT, eqF, nM_ltT, nM_ltF, nM_leT, nM_leF, nM_eqF, nM_eqF', nbT0, nbT1, oI_s, oI_n, natF, natT, nltT, nltF, nleT, nleF, ↓reduceIte, lgc, not_true_eq_false, not_false_eq_true, or_false, false_or, or_true, true_or, and_true, true_and, and_false, false_and, ne_eq, eq_self, or_self, and_self, obs, ↓jn, ↓lt, ↓reduceIte, decide_true, decide_false, Bool.false_eq_true, Bool.and_true, Bool.and_false, Bool.true_and, Bool.false_and, Bool.or_false, Bool.false_or, Bool.or_true, Bool.true_or]
  refine bwf (fun k => (ch c p k, nI k)) (Sum.inl ()) (fun k => Sum.inr (oX c (gb m p k (kyN m t)))) (fun k => (gb m p k (kyN m t)).isSome) (cnt := mz m p) (by omega) rfl ?_ (fun i hi => ?_) ?_
  · simp (disch := first | omega | decide) only [↓neg1, nlit, rI, rL, rI2, rL1, nI_add, pk_mul, sbT, dvT, nmd, ixT, ↓ibT, ltT, ltF, leT, leF, eqT, eqF, nM_ltT, nM_ltF, nM_leT, nM_leF, nM_eqF, nM_eqF', nbT0, nbT1, oI_s, oI_n, natF, natT, nltT, nltF, nleT, nleF, ↓reduceIte, lgc, not_true_eq_false, not_false_eq_true, or_false, false_or, or_true, true_or, and_true, true_and, and_false, false_and, ne_eq, eq_self, or_self, and_self, obs, ↓jn, ↓lt, ↓reduceIte, decide_true, decide_false, Bool.false_eq_true, Bool.and_true, Bool.and_false, Bool.true_and, Bool.false_and, Bool.or_false, Bool.false_or, Bool.or_true, Bool.true_or, s3]
  · obtain ⟨a1, a2, a3, a4, -⟩ := EC_mk h hP hi
    have e183' := e183 (n := n) h hP hi ht
    cases hg : gb m p i (kyN m t) with
    | none => simp (disch := first | omega | decide) only [↓neg1, nlit, rI, rL, rI2, rL1, nI_add, pk_mul, sbT, dvT, nmd, ixT, ↓ibT, ltT, ltF, leT, leF, eqT, eqF, nM_ltT, nM_ltF, nM_leT, nM_leF, nM_eqF, nM_eqF', nbT0, nbT1, oI_s, oI_n, natF, natT, nltT, nltF, nleT, nleF, ↓reduceIte, lgc, not_true_eq_false, not_false_eq_true, or_false, false_or, or_true, true_or, and_true, true_and, and_false, false_and, ne_eq, eq_self, or_self, and_self, obs, ↓jn, ↓lt, ↓reduceIte, decide_true, decide_false, Bool.false_eq_true, Bool.and_true, Bool.and_false, Bool.true_and, Bool.false_and, Bool.or_false, Bool.false_or, Bool.or_true, Bool.true_or, s3, a1, e183', hg, oX, ch, Option.isSome_none]
    | some y =>
      have hx : xi c y < 4096 := gb_x h hP hi hg
      simp (disch := first | omega | decide) only [↓neg1, nlit, rI, rL, rI2, rL1, nI_add, pk_mul, sbT, dvT, nmd, ixT, ↓ibT, ltT, ltF, leT, leF, eqT, eqF, nM_ltT, nM_ltF, nM_leT, nM_leF, nM_eqF, nM_eqF', nbT0, nbT1, oI_s, oI_n, natF, natT, nltT, nltF, nleT, nleF, ↓reduceIte, lgc, not_true_eq_false, not_false_eq_true, or_false, false_or, or_true, true_or, and_true, true_and, and_false, false_and, ne_eq, eq_self, or_self, and_self, obs, ↓jn, ↓lt, ↓reduceIte, decide_true, decide_false, Bool.false_eq_true, Bool.and_true, Bool.and_false, Bool.true_and, Bool.false_and, Bool.or_false, Bool.false_or, Bool.or_true, Bool.true_or, s3, a1, e183', hg, oX, ch, Option.isSome_some]
  · unfold gAt
    cases hf : ff (fun i => (gb m p i (kyN m t)).isSome) (mz m p) with
    | none => rfl
    | some i => rfl
