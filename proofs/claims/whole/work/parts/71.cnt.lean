/-! WHAT COUNTS, WHAT IS GIVEN: the reference's -/
theorem cntN_le {p : Nat → Bool} : ∀ t, cntN p t ≤ t
  | 0 => Nat.le_refl _
  | t + 1 => by
    have := cntN_le (p := p) t
    unfold cntN
    split <;> omega
theorem cntN_s {p : Nat → Bool} {t : Nat} : cntN p (t + 1) = cntN p t + (if p t = true then 1 else 0) := rfl
theorem cntN_mono {p : Nat → Bool} {s : Nat} : ∀ t, s ≤ t → cntN p s ≤ cntN p t
  | 0, h => by
    have : s = 0 := by omega
    subst this
    exact Nat.le_refl _
  | t + 1, h => by
    by_cases e : s = t + 1
    · subst e
      exact Nat.le_refl _
    · have := cntN_mono (p := p) (s := s) t (by omega)
      rw [cntN_s]
      omega
theorem PA_of {a : Nat} (h : PA a = true) : (181 ≤ a ∧ a ≤ 221) ∨ a = 229 ∨ a = 230 := by
  unfold PA at h
  simp only [Bool.or_eq_true, Bool.and_eq_true, Nat.ble_eq, Nat.beq_eq] at h
  omega
theorem PF_of {i : Nat} (h : PF i = true) : i = 14 ∨ i = 15 ∨ i = 24 ∨ i = 34 ∨ i = 37 := by
  unfold PF at h
  simp only [Bool.or_eq_true, Nat.beq_eq] at h
  omega
/-- what looking for EFFECTIVE MARKS writes -/
def qR (a i : Nat) : Bool := decide ((a = 174 ∧ 73 ≤ i ∧ i ≤ 79) ∨ a = 232 ∨ a = 233)
theorem nP_qR : nP qR := by
  refine ⟨fun a i h => ?_, fun i h => ?_, fun i h => ?_, fun a i h1 h2 h3 => ?_, fun a i h1 h2 h3 => ?_⟩
  · have := PA_of h
    exact decide_eq_false (by omega)
  · have := PF_of h
    exact decide_eq_false (by omega)
  · exact decide_eq_false (by omega)
  · exact decide_eq_false (by omega)
  · exact decide_eq_false (by omega)
/-- what looking for GIVEN ones alone writes -/
def qG (a i : Nat) : Bool := decide ((a = 174 ∧ i = 73) ∨ a = 232)
theorem qG_R {a i : Nat} (h : qR a i = false) : qG a i = false := by
  have := of_decide_eq_false h
  exact decide_eq_false (by omega)
theorem nP_qG : nP qG := by
  refine ⟨fun a i h => qG_R (nP_qR.1 a i h), fun i h => qG_R (nP_qR.2.1 i h), fun i h => qG_R (nP_qR.2.2.1 i h), fun a i h1 h2 h3 => qG_R (nP_qR.2.2.2.1 a i h1 h2 h3), fun a i h1 h2 h3 => qG_R (nP_qR.2.2.2.2 a i h1 h2 h3)⟩
theorem si_lt (p : Nat) : si p < 4 := by
  unfold si
  split
  · omega
  split
  · omega
  split <;> omega
theorem e110s {n p : Nat} (hp : p < 2 ^ 31) : d_110 n (nI p) = some (nI (2 ^ si p)) := by
  rw [e110 hp]
  unfold si
  split
  · rfl
  split
  · rfl
  split <;> rfl
theorem andb {u s : Nat} (hu : u < 16) (hs : s < 4) : (nI u &&& nI (2 ^ s) = nI 0) = (u.testBit s = false) := by
  have : ∀ a : Fin 16, ∀ b : Fin 4, (nI a.1 &&& nI (2 ^ b.1) = nI 0) ↔ (a.1.testBit b.1 = false) := by decide +kernel
  exact propext (this ⟨u, hu⟩ ⟨s, hs⟩)
theorem pow1 {s : Nat} (hs : s < 4) : (nI (2 ^ s) = nI 1) = (s = 0) := by
  have : ∀ b : Fin 4, (nI (2 ^ b.1) = nI 1) ↔ (b.1 = 0) := by decide +kernel
  exact propext (this ⟨s, hs⟩)
theorem e392 {n p i : Nat} : d_392 n (nI p) (nI i) = some (nI (p * 20 + i)) := by
  unfold d_392
  simp (disch := first | omega | decide) only [↓neg1, nlit, rI, rL, rI2, rL1, nI_add, pk_mul, sbT, dvT, nmd, ixT, ↓ibT, ltT, ltF, leT, leF, eqT, eqF, nM_ltT, nM_ltF, nM_leT, nM_leF, nM_eqF, nM_eqF', nbT0, nbT1, oI_s, oI_n, natF, natT, nltT, nltF, nleT, nleF, ↓reduceIte, lgc, not_true_eq_false, not_false_eq_true, or_false, false_or, or_true, true_or, and_true, true_and, and_false, false_and, ne_eq, eq_self, or_self, and_self, obs, ↓jn, ↓lt, ↓reduceIte, decide_true, decide_false, Bool.false_eq_true, Bool.and_true, Bool.and_false, Bool.true_and, Bool.false_and, Bool.or_false, Bool.false_or, Bool.or_true, Bool.true_or]
section TOF
variable {m : cS} {v : Int64} {o k t p i : Nat}
theorem oOf_lt (h : oOf m v = some o) : o < ocn m ∧ m.2 181 o = v := ⟨(ff_some h).1, of_decide_eq_true (ff_some h).2.1⟩
theorem kOf_lt (h : kOf m v = some k) : k < kcn m ∧ m.2 189 k = v := ⟨(ff_some h).1, of_decide_eq_true (ff_some h).2.1⟩
theorem NMS_ok (h : NMS m) (ho : oOf m v = some o) : kOf m v = none := by
  cases hk : kOf m v with
  | none => rfl
  | some k =>
    obtain ⟨h1, h2⟩ := kOf_lt hk
    have := (h.2 k h1).1
    rw [h2, ho] at this
    cases this
theorem tOf_o (ho : oOf m v = some o) : tOf m v = some (100 + o) := by
  unfold tOf
  rw [ho]
theorem tOf_k (ho : oOf m v = none) : tOf m v = kOf m v := by
  unfold tOf
  rw [ho]
theorem kyN_k (h : t < 100) : kyN m t = m.2 189 t := if_pos h
theorem kyN_o : kyN m (100 + o) = m.2 181 o := by
  unfold kyN
  rw [if_neg (by omega), show 100 + o - 100 = o by omega]
theorem isKy_lt (h1 : kcn m ≤ 12) (h2 : ocn m ≤ 4) (h : isKy m t) : t < 104 := by
  unfold isKy at h
  omega
theorem kyN_ne (hN : NMS m) (h1 : kcn m ≤ 12) (h : isKy m t) : kyN m t ≠ 0 := by
  unfold kyN
  rcases h with h | h
  · rw [if_pos (by omega)]
    exact (hN.2 t h).2.2
  · rw [if_neg (by omega)]
    exact (hN.1 (t - 100) (by omega)).2
/-- a NAME is a key's -/
theorem tOf_iff (hN : NMS m) (h1 : kcn m ≤ 12) (h : isKy m t) : tOf m v = some t ↔ v = kyN m t := by
  unfold kyN
  constructor
  · intro e
    cases ho : oOf m v with
    | some o =>
      rw [tOf_o ho] at e
      cases e
      rw [if_neg (by omega), show 100 + o - 100 = o by omega, (oOf_lt ho).2]
    | none =>
      rw [tOf_k ho] at e
      obtain ⟨e1, e2⟩ := kOf_lt e
      rw [if_pos (by omega), e2]
  · intro e
    rcases h with h | h
    · rw [if_pos (by omega)] at e
      subst e
      rw [tOf_k (hN.2 t h).1, (hN.2 t h).2.1]
    · rw [if_neg (by omega)] at e
      subst e
      rw [tOf_o (hN.1 (t - 100) (by omega)).1]
      exact congrArg some (by omega)
theorem tOf_lt (h1 : kcn m ≤ 12) (h2 : ocn m ≤ 4) (h : tOf m v = some t) : t < 104 ∧ isKy m t := by
  cases ho : oOf m v with
  | some o =>
    rw [tOf_o ho] at h
    cases h
    have := (oOf_lt ho).1
    exact ⟨by omega, Or.inr (by omega)⟩
  | none =>
    rw [tOf_k ho] at h
    have := (kOf_lt h).1
    exact ⟨by omega, Or.inl this⟩
theorem dcn_o (ho : oOf m (m.2 223 (p * 20 + i)) = some o) : dcn m p i = (decide (si p ≠ 0) && decide (smn m p (m.2 223 (p * 20 + i)) = 1)) := by
  unfold dcn
  rw [tOf_o ho]
  show (cst m (100 + o) (si p) && (mny m (100 + o) || _)) = _
  unfold cst mny
  rw [if_neg (by omega), decide_eq_false (show ¬ 100 + o < 100 by omega)]
  rfl
theorem dcn_k (h1 : kcn m ≤ 12) (ho : oOf m (m.2 223 (p * 20 + i)) = none) (hk : kOf m (m.2 223 (p * 20 + i)) = some k) : dcn m p i = ((kw m k).testBit (si p) && (decide (m.1 197 k = nI 1) || decide (smn m p (m.2 223 (p * 20 + i)) = 1))) := by
  have := (kOf_lt hk).1
  unfold dcn
  rw [tOf_k ho, hk]
  show (cst m k (si p) && (mny m k || _)) = _
  unfold cst mny
  rw [if_pos (by omega), decide_eq_true (show k < 100 by omega)]
  rfl
theorem dcn_n (ho : oOf m (m.2 223 (p * 20 + i)) = none) (hk : kOf m (m.2 223 (p * 20 + i)) = none) : dcn m p i = false := by
  unfold dcn
  rw [tOf_k ho, hk]
end TOF
theorem e425 {n p i : Nat} {c m u : cS} (hn : 1000 ≤ n) (hA : AG m u) (hO : OOS c m) (hK : KKS c m) (hp : p < 1200) (hz : mz m p ≤ 20) (hz' : m.1 222 p = nI (mz m p)) (hi : i < mz m p) : d_425 n (nI p) (nI i) u = some (if dcn m p i = true then nI 1 else nI 0) := by
  obtain ⟨A1, A2, A3, A4, A5, A6, A7, A8, A9, A10⟩ := id hA
  obtain ⟨k1, -, k3, k4, k5, -⟩ := hK
  have hsi := si_lt p
  have hsm : smn m p (m.2 223 (p * 20 + i)) ≤ mz m p := cntN_le _
  have e372' := fun v => e372 (n := n) (v := v) (by omega) hA hO
  have e373' := fun v => e373 (n := n) (v := v) (by omega) hA k1 k3
  have hloop : ∀ {G : Int32 → Option Int32} {K : Int32 → Prop} {f : Int32 × Int32 → Option ((Int32 × Int32) ⊕ Int32)}, (∀ k, k ≤ mz m p → f (nI (cntN (fun j => decide (m.2 223 (p * 20 + j) = m.2 223 (p * 20 + i))) k), nI k) = if mz m p ≤ k then some (.inr (nI (cntN (fun j => decide (m.2 223 (p * 20 + j) = m.2 223 (p * 20 + i))) k))) else some (.inl (nI (cntN (fun j => decide (m.2 223 (p * 20 + j) = m.2 223 (p * 20 + i))) (k + 1)), nI (k + 1)))) → wp (G (nI (smn m p (m.2 223 (p * 20 + i))))) K → wp (Option.bind (whl f n (0, 0)) G) K := by
    intro G K f hf hG
    refine wbo (fun k => (nI (cntN (fun j => decide (m.2 223 (p * 20 + j) = m.2 223 (p * 20 + i))) k), nI k)) (nI (smn m p (m.2 223 (p * 20 + i)))) (cnt := mz m p) (by omega) rfl ?_ (fun k hk => ?_) hG
    · rw [hf _ (Nat.le_refl _), if_pos (Nat.le_refl _)]
      rfl
    · rw [hf _ (by omega), if_neg (by omega)]
  refine eq_wp ?_
  unfold d_425
  refine wpe e392 ?_
  (try dsimp only); repeat (first | with_reducible refine wpl ?_ | with_reducible refine wpj ?_ | with_reducible refine wpSl ?_ | with_reducible refine wpSr ?_ | with_reducible refine wpS ?_ | ((with_reducible refine wpt ?_ ?_); · simp (disch := first | omega | decide) only [↓neg1, nlit, rI, rL, rI2, rL1, nI_add, pk_mul, sbT, dvT, nmd, ixT, ↓ibT, ltT, ltF, leT, leF, eqT, eqF, nM_ltT, nM_ltF, nM_leT, nM_leF, nM_eqF, nM_eqF', nbT0, nbT1, oI_s, oI_n, natF, natT, nltT, nltF, nleT, nleF, ↓reduceIte, lgc, not_true_eq_false, not_false_eq_true, or_false, false_or, or_true, true_or, and_true, true_and, and_false, false_and, ne_eq, eq_self, or_self, and_self]; done) | ((with_reducible refine wpf ?_ ?_); · simp (disch := first | omega | decide) only [↓neg1, nlit, rI, rL, rI2, rL1, nI_add, pk_mul, sbT, dvT, nmd, ixT, ↓ibT, ltT, ltF, leT, leF, eqT, eqF, nM_ltT, nM_ltF, nM_leT, nM_leF, nM_eqF, nM_eqF', nbT0, nbT1, oI_s, oI_n, natF, natT, nltT, nltF, nleT, nleF, ↓reduceIte, lgc, not_true_eq_false, not_false_eq_true, or_false, false_or, or_true, true_or, and_true, true_and, and_false, false_and, ne_eq, eq_self, or_self, and_self]; done))
  rw [ix_n (by omega), A5 _ (by omega)]
  refine wpe (e372' _) (wpe (e373' _) ?_)
  cases ho : oOf m (m.2 223 (p * 20 + i)) with
  | some o =>
    have hk := NMS_ok k5 ho
    have := (oOf_lt ho).1
    have := hO.1
    rw [dcn_o ho, hk]
    (try dsimp only); repeat (first | with_reducible refine wpl ?_ | with_reducible refine wpj ?_ | with_reducible refine wpSl ?_ | with_reducible refine wpSr ?_ | with_reducible refine wpS ?_ | ((with_reducible refine wpt ?_ ?_); · simp (disch := first | omega | decide) only [↓neg1, nlit, rI, rL, rI2, rL1, nI_add, pk_mul, sbT, dvT, nmd, ixT, ↓ibT, ltT, ltF, leT, leF, eqT, eqF, nM_ltT, nM_ltF, nM_leT, nM_leF, nM_eqF, nM_eqF', nbT0, nbT1, oI_s, oI_n, natF, natT, nltT, nltF, nleT, nleF, ↓reduceIte, lgc, not_true_eq_false, not_false_eq_true, or_false, false_or, or_true, true_or, and_true, true_and, and_false, false_and, ne_eq, eq_self, or_self, and_self]; done) | ((with_reducible refine wpf ?_ ?_); · simp (disch := first | omega | decide) only [↓neg1, nlit, rI, rL, rI2, rL1, nI_add, pk_mul, sbT, dvT, nmd, ixT, ↓ibT, ltT, ltF, leT, leF, eqT, eqF, nM_ltT, nM_ltF, nM_leT, nM_leF, nM_eqF, nM_eqF', nbT0, nbT1, oI_s, oI_n, natF, natT, nltT, nltF, nleT, nleF, ↓reduceIte, lgc, not_true_eq_false, not_false_eq_true, or_false, false_or, or_true, true_or, and_true, true_and, and_false, false_and, ne_eq, eq_self, or_self, and_self]; done))
    refine wpe (e110s (by omega)) ?_
    by_cases hs : si p = 0
    · (try dsimp only); repeat (first | with_reducible refine wpl ?_ | with_reducible refine wpj ?_ | with_reducible refine wpSl ?_ | with_reducible refine wpSr ?_ | with_reducible refine wpS ?_ | ((with_reducible refine wpt ?_ ?_); · simp (disch := first | omega | decide) only [↓neg1, nlit, rI, rL, rI2, rL1, nI_add, pk_mul, sbT, dvT, nmd, ixT, ↓ibT, ltT, ltF, leT, leF, eqT, eqF, nM_ltT, nM_ltF, nM_leT, nM_leF, nM_eqF, nM_eqF', nbT0, nbT1, oI_s, oI_n, natF, natT, nltT, nltF, nleT, nleF, ↓reduceIte, lgc, not_true_eq_false, not_false_eq_true, or_false, false_or, or_true, true_or, and_true, true_and, and_false, false_and, ne_eq, eq_self, or_self, and_self, hs]; done) | ((with_reducible refine wpf ?_ ?_); · simp (disch := first | omega | decide) only [↓neg1, nlit, rI, rL, rI2, rL1, nI_add, pk_mul, sbT, dvT, nmd, ixT, ↓ibT, ltT, ltF, leT, leF, eqT, eqF, nM_ltT, nM_ltF, nM_leT, nM_leF, nM_eqF, nM_eqF', nbT0, nbT1, oI_s, oI_n, natF, natT, nltT, nltF, nleT, nleF, ↓reduceIte, lgc, not_true_eq_false, not_false_eq_true, or_false, false_or, or_true, true_or, and_true, true_and, and_false, false_and, ne_eq, eq_self, or_self, and_self, hs]; done))
      rw [hs]
      rfl
    · (try dsimp only); repeat (first | with_reducible refine wpl ?_ | with_reducible refine wpj ?_ | with_reducible refine wpSl ?_ | with_reducible refine wpSr ?_ | with_reducible refine wpS ?_ | ((with_reducible refine wpt ?_ ?_); · simp (disch := first | omega | decide) only [↓neg1, nlit, rI, rL, rI2, rL1, nI_add, pk_mul, sbT, dvT, nmd, ixT, ↓ibT, ltT, ltF, leT, leF, eqT, eqF, nM_ltT, nM_ltF, nM_leT, nM_leF, nM_eqF, nM_eqF', nbT0, nbT1, oI_s, oI_n, natF, natT, nltT, nltF, nleT, nleF, ↓reduceIte, lgc, not_true_eq_false, not_false_eq_true, or_false, false_or, or_true, true_or, and_true, true_and, and_false, false_and, ne_eq, eq_self, or_self, and_self, pow1, hs]; done) | ((with_reducible refine wpf ?_ ?_); · simp (disch := first | omega | decide) only [↓neg1, nlit, rI, rL, rI2, rL1, nI_add, pk_mul, sbT, dvT, nmd, ixT, ↓ibT, ltT, ltF, leT, leF, eqT, eqF, nM_ltT, nM_ltF, nM_leT, nM_leF, nM_eqF, nM_eqF', nbT0, nbT1, oI_s, oI_n, natF, natT, nltT, nltF, nleT, nleF, ↓reduceIte, lgc, not_true_eq_false, not_false_eq_true, or_false, false_or, or_true, true_or, and_true, true_and, and_false, false_and, ne_eq, eq_self, or_self, and_self, pow1, hs]; done))
      refine hloop (fun k hk => ?_) ?_
      · by_cases hc : mz m p ≤ k
        · simp (disch := first | omega | decide) only [↓neg1, nlit, rI, rL, rI2, rL1, nI_add, pk_mul, sbT, dvT, nmd, ixT, ↓ibT, ltT, ltF, leT, leF, eqT, eqF, nM_ltT, nM_ltF, nM_leT, nM_leF, nM_eqF, nM_eqF', nbT0, nbT1, oI_s, oI_n, natF, natT, nltT, nltF, nleT, nleF, ↓reduceIte, lgc, not_true_eq_false, not_false_eq_true, or_false, false_or, or_true, true_or, and_true, true_and, and_false, false_and, ne_eq, eq_self, or_self, and_self, obs, ↓jn, ↓lt, ↓reduceIte, decide_true, decide_false, Bool.false_eq_true, Bool.and_true, Bool.and_false, Bool.true_and, Bool.false_and, Bool.or_false, Bool.false_or, Bool.or_true, Bool.true_or, A4, hz', hc]
        · by_cases hv : m.2 223 (p * 20 + k) = m.2 223 (p * 20 + i)
          · simp (disch := first | omega | decide) only [↓neg1, nlit, rI, rL, rI2, rL1, nI_add, pk_mul, sbT, dvT, nmd, ixT, ↓ibT, ltT, ltF, leT, leF, eqT, eqF, nM_ltT, nM_ltF, nM_leT, nM_leF, nM_eqF, nM_eqF', nbT0, nbT1, oI_s, oI_n, natF, natT, nltT, nltF, nleT, nleF, ↓reduceIte, lgc, not_true_eq_false, not_false_eq_true, or_false, false_or, or_true, true_or, and_true, true_and, and_false, false_and, ne_eq, eq_self, or_self, and_self, obs, ↓jn, ↓lt, ↓reduceIte, decide_true, decide_false, Bool.false_eq_true, Bool.and_true, Bool.and_false, Bool.true_and, Bool.false_and, Bool.or_false, Bool.false_or, Bool.or_true, Bool.true_or, A4, hz', A5, hc, hv, cntN_s, e392]
          · simp (disch := first | omega | decide) only [↓neg1, nlit, rI, rL, rI2, rL1, nI_add, pk_mul, sbT, dvT, nmd, ixT, ↓ibT, ltT, ltF, leT, leF, eqT, eqF, nM_ltT, nM_ltF, nM_leT, nM_leF, nM_eqF, nM_eqF', nbT0, nbT1, oI_s, oI_n, natF, natT, nltT, nltF, nleT, nleF, ↓reduceIte, lgc, not_true_eq_false, not_false_eq_true, or_false, false_or, or_true, true_or, and_true, true_and, and_false, false_and, ne_eq, eq_self, or_self, and_self, obs, ↓jn, ↓lt, ↓reduceIte, decide_true, decide_false, Bool.false_eq_true, Bool.and_true, Bool.and_false, Bool.true_and, Bool.false_and, Bool.or_false, Bool.false_or, Bool.or_true, Bool.true_or, A4, hz', A5, hc, hv, cntN_s, e392]
      · by_cases h1 : smn m p (m.2 223 (p * 20 + i)) = 1
        · (try dsimp only); repeat (first | with_reducible refine wpl ?_ | with_reducible refine wpj ?_ | with_reducible refine wpSl ?_ | with_reducible refine wpSr ?_ | with_reducible refine wpS ?_ | ((with_reducible refine wpt ?_ ?_); · simp (disch := first | omega | decide) only [↓neg1, nlit, rI, rL, rI2, rL1, nI_add, pk_mul, sbT, dvT, nmd, ixT, ↓ibT, ltT, ltF, leT, leF, eqT, eqF, nM_ltT, nM_ltF, nM_leT, nM_leF, nM_eqF, nM_eqF', nbT0, nbT1, oI_s, oI_n, natF, natT, nltT, nltF, nleT, nleF, ↓reduceIte, lgc, not_true_eq_false, not_false_eq_true, or_false, false_or, or_true, true_or, and_true, true_and, and_false, false_and, ne_eq, eq_self, or_self, and_self, h1]; done) | ((with_reducible refine wpf ?_ ?_); · simp (disch := first | omega | decide) only [↓neg1, nlit, rI, rL, rI2, rL1, nI_add, pk_mul, sbT, dvT, nmd, ixT, ↓ibT, ltT, ltF, leT, leF, eqT, eqF, nM_ltT, nM_ltF, nM_leT, nM_leF, nM_eqF, nM_eqF', nbT0, nbT1, oI_s, oI_n, natF, natT, nltT, nltF, nleT, nleF, ↓reduceIte, lgc, not_true_eq_false, not_false_eq_true, or_false, false_or, or_true, true_or, and_true, true_and, and_false, false_and, ne_eq, eq_self, or_self, and_self, h1]; done))
          rw [decide_eq_true hs, decide_eq_true h1]
          rfl
        · (try dsimp only); repeat (first | with_reducible refine wpl ?_ | with_reducible refine wpj ?_ | with_reducible refine wpSl ?_ | with_reducible refine wpSr ?_ | with_reducible refine wpS ?_ | ((with_reducible refine wpt ?_ ?_); · simp (disch := first | omega | decide) only [↓neg1, nlit, rI, rL, rI2, rL1, nI_add, pk_mul, sbT, dvT, nmd, ixT, ↓ibT, ltT, ltF, leT, leF, eqT, eqF, nM_ltT, nM_ltF, nM_leT, nM_leF, nM_eqF, nM_eqF', nbT0, nbT1, oI_s, oI_n, natF, natT, nltT, nltF, nleT, nleF, ↓reduceIte, lgc, not_true_eq_false, not_false_eq_true, or_false, false_or, or_true, true_or, and_true, true_and, and_false, false_and, ne_eq, eq_self, or_self, and_self, h1]; done) | ((with_reducible refine wpf ?_ ?_); · simp (disch := first | omega | decide) only [↓neg1, nlit, rI, rL, rI2, rL1, nI_add, pk_mul, sbT, dvT, nmd, ixT, ↓ibT, ltT, ltF, leT, leF, eqT, eqF, nM_ltT, nM_ltF, nM_leT, nM_leF, nM_eqF, nM_eqF', nbT0, nbT1, oI_s, oI_n, natF, natT, nltT, nltF, nleT, nleF, ↓reduceIte, lgc, not_true_eq_false, not_false_eq_true, or_false, false_or, or_true, true_or, and_true, true_and, and_false, false_and, ne_eq, eq_self, or_self, and_self, h1]; done))
          rw [decide_eq_true hs, decide_eq_false h1]
          rfl
  | none =>
    cases hk : kOf m (m.2 223 (p * 20 + i)) with
    | none =>
      rw [dcn_n ho hk]
      (try dsimp only); repeat (first | with_reducible refine wpl ?_ | with_reducible refine wpj ?_ | with_reducible refine wpSl ?_ | with_reducible refine wpSr ?_ | with_reducible refine wpS ?_ | ((with_reducible refine wpt ?_ ?_); · simp (disch := first | omega | decide) only [↓neg1, nlit, rI, rL, rI2, rL1, nI_add, pk_mul, sbT, dvT, nmd, ixT, ↓ibT, ltT, ltF, leT, leF, eqT, eqF, nM_ltT, nM_ltF, nM_leT, nM_leF, nM_eqF, nM_eqF', nbT0, nbT1, oI_s, oI_n, natF, natT, nltT, nltF, nleT, nleF, ↓reduceIte, lgc, not_true_eq_false, not_false_eq_true, or_false, false_or, or_true, true_or, and_true, true_and, and_false, false_and, ne_eq, eq_self, or_self, and_self]; done) | ((with_reducible refine wpf ?_ ?_); · simp (disch := first | omega | decide) only [↓neg1, nlit, rI, rL, rI2, rL1, nI_add, pk_mul, sbT, dvT, nmd, ixT, ↓ibT, ltT, ltF, leT, leF, eqT, eqF, nM_ltT, nM_ltF, nM_leT, nM_leF, nM_eqF, nM_eqF', nbT0, nbT1, oI_s, oI_n, natF, natT, nltT, nltF, nleT, nleF, ↓reduceIte, lgc, not_true_eq_false, not_false_eq_true, or_false, false_or, or_true, true_or, and_true, true_and, and_false, false_and, ne_eq, eq_self, or_self, and_self]; done))
      rfl
    | some k =>
      rw [dcn_k k1 ho hk]
      have hk2 := (kOf_lt hk).1
      obtain ⟨-, -, -, -, -, g6, g7, g8, g9, g10, g11, g12⟩ := k4 k hk2
      (try dsimp only); repeat (first | with_reducible refine wpl ?_ | with_reducible refine wpj ?_ | with_reducible refine wpSl ?_ | with_reducible refine wpSr ?_ | with_reducible refine wpS ?_ | ((with_reducible refine wpt ?_ ?_); · simp (disch := first | omega | decide) only [↓neg1, nlit, rI, rL, rI2, rL1, nI_add, pk_mul, sbT, dvT, nmd, ixT, ↓ibT, ltT, ltF, leT, leF, eqT, eqF, nM_ltT, nM_ltF, nM_leT, nM_leF, nM_eqF, nM_eqF', nbT0, nbT1, oI_s, oI_n, natF, natT, nltT, nltF, nleT, nleF, ↓reduceIte, lgc, not_true_eq_false, not_false_eq_true, or_false, false_or, or_true, true_or, and_true, true_and, and_false, false_and, ne_eq, eq_self, or_self, and_self]; done) | ((with_reducible refine wpf ?_ ?_); · simp (disch := first | omega | decide) only [↓neg1, nlit, rI, rL, rI2, rL1, nI_add, pk_mul, sbT, dvT, nmd, ixT, ↓ibT, ltT, ltF, leT, leF, eqT, eqF, nM_ltT, nM_ltF, nM_leT, nM_leF, nM_eqF, nM_eqF', nbT0, nbT1, oI_s, oI_n, natF, natT, nltT, nltF, nleT, nleF, ↓reduceIte, lgc, not_true_eq_false, not_false_eq_true, or_false, false_or, or_true, true_or, and_true, true_and, and_false, false_and, ne_eq, eq_self, or_self, and_self]; done))
      refine wpe (e110s (by omega)) ?_
      by_cases hb : (kw m k).testBit (si p) = false
      · (try dsimp only); repeat (first | with_reducible refine wpl ?_ | with_reducible refine wpj ?_ | with_reducible refine wpSl ?_ | with_reducible refine wpSr ?_ | with_reducible refine wpS ?_ | ((with_reducible refine wpt ?_ ?_); · simp (disch := first | omega | decide) only [↓neg1, nlit, rI, rL, rI2, rL1, nI_add, pk_mul, sbT, dvT, nmd, ixT, ↓ibT, ltT, ltF, leT, leF, eqT, eqF, nM_ltT, nM_ltF, nM_leT, nM_leF, nM_eqF, nM_eqF', nbT0, nbT1, oI_s, oI_n, natF, natT, nltT, nltF, nleT, nleF, ↓reduceIte, lgc, not_true_eq_false, not_false_eq_true, or_false, false_or, or_true, true_or, and_true, true_and, and_false, false_and, ne_eq, eq_self, or_self, and_self, A1, g7, andb, hb]; done) | ((with_reducible refine wpf ?_ ?_); · simp (disch := first | omega | decide) only [↓neg1, nlit, rI, rL, rI2, rL1, nI_add, pk_mul, sbT, dvT, nmd, ixT, ↓ibT, ltT, ltF, leT, leF, eqT, eqF, nM_ltT, nM_ltF, nM_leT, nM_leF, nM_eqF, nM_eqF', nbT0, nbT1, oI_s, oI_n, natF, natT, nltT, nltF, nleT, nleF, ↓reduceIte, lgc, not_true_eq_false, not_false_eq_true, or_false, false_or, or_true, true_or, and_true, true_and, and_false, false_and, ne_eq, eq_self, or_self, and_self, A1, g7, andb, hb]; done))
        rw [hb]
        rfl
      · have hb' : (kw m k).testBit (si p) = true := by simpa using hb
        rw [hb']
        by_cases hm : m.1 197 k = nI 1
        · (try dsimp only); repeat (first | with_reducible refine wpl ?_ | with_reducible refine wpj ?_ | with_reducible refine wpSl ?_ | with_reducible refine wpSr ?_ | with_reducible refine wpS ?_ | ((with_reducible refine wpt ?_ ?_); · simp (disch := first | omega | decide) only [↓neg1, nlit, rI, rL, rI2, rL1, nI_add, pk_mul, sbT, dvT, nmd, ixT, ↓ibT, ltT, ltF, leT, leF, eqT, eqF, nM_ltT, nM_ltF, nM_leT, nM_leF, nM_eqF, nM_eqF', nbT0, nbT1, oI_s, oI_n, natF, natT, nltT, nltF, nleT, nleF, ↓reduceIte, lgc, not_true_eq_false, not_false_eq_true, or_false, false_or, or_true, true_or, and_true, true_and, and_false, false_and, ne_eq, eq_self, or_self, and_self, A1, g7, andb, hb', hm, Bool.true_eq_false]; done) | ((with_reducible refine wpf ?_ ?_); · simp (disch := first | omega | decide) only [↓neg1, nlit, rI, rL, rI2, rL1, nI_add, pk_mul, sbT, dvT, nmd, ixT, ↓ibT, ltT, ltF, leT, leF, eqT, eqF, nM_ltT, nM_ltF, nM_leT, nM_leF, nM_eqF, nM_eqF', nbT0, nbT1, oI_s, oI_n, natF, natT, nltT, nltF, nleT, nleF, ↓reduceIte, lgc, not_true_eq_false, not_false_eq_true, or_false, false_or, or_true, true_or, and_true, true_and, and_false, false_and, ne_eq, eq_self, or_self, and_self, A1, g7, andb, hb', hm, Bool.true_eq_false]; done))
          rw [decide_eq_true hm]
          rfl
        · have hm0 : m.1 197 k = nI 0 := g11.resolve_right hm
          rw [decide_eq_false hm]
          (try dsimp only); repeat (first | with_reducible refine wpl ?_ | with_reducible refine wpj ?_ | with_reducible refine wpSl ?_ | with_reducible refine wpSr ?_ | with_reducible refine wpS ?_ | ((with_reducible refine wpt ?_ ?_); · simp (disch := first | omega | decide) only [↓neg1, nlit, rI, rL, rI2, rL1, nI_add, pk_mul, sbT, dvT, nmd, ixT, ↓ibT, ltT, ltF, leT, leF, eqT, eqF, nM_ltT, nM_ltF, nM_leT, nM_leF, nM_eqF, nM_eqF', nbT0, nbT1, oI_s, oI_n, natF, natT, nltT, nltF, nleT, nleF, ↓reduceIte, lgc, not_true_eq_false, not_false_eq_true, or_false, false_or, or_true, true_or, and_true, true_and, and_false, false_and, ne_eq, eq_self, or_self, and_self, A1, g7, andb, hb', hm0, Bool.true_eq_false]; done) | ((with_reducible refine wpf ?_ ?_); · simp (disch := first | omega | decide) only [↓neg1, nlit, rI, rL, rI2, rL1, nI_add, pk_mul, sbT, dvT, nmd, ixT, ↓ibT, ltT, ltF, leT, leF, eqT, eqF, nM_ltT, nM_ltF, nM_leT, nM_leF, nM_eqF, nM_eqF', nbT0, nbT1, oI_s, oI_n, natF, natT, nltT, nltF, nleT, nleF, ↓reduceIte, lgc, not_true_eq_false, not_false_eq_true, or_false, false_or, or_true, true_or, and_true, true_and, and_false, false_and, ne_eq, eq_self, or_self, and_self, A1, g7, andb, hb', hm0, Bool.true_eq_false]; done))
          refine hloop (fun k hk => ?_) ?_
          · by_cases hc : mz m p ≤ k
            · simp (disch := first | omega | decide) only [↓neg1, nlit, rI, rL, rI2, rL1, nI_add, pk_mul, sbT, dvT, nmd, ixT, ↓ibT, ltT, ltF, leT, leF, eqT, eqF, nM_ltT, nM_ltF, nM_leT, nM_leF, nM_eqF, nM_eqF', nbT0, nbT1, oI_s, oI_n, natF, natT, nltT, nltF, nleT, nleF, ↓reduceIte, lgc, not_true_eq_false, not_false_eq_true, or_false, false_or, or_true, true_or, and_true, true_and, and_false, false_and, ne_eq, eq_self, or_self, and_self, obs, ↓jn, ↓lt, ↓reduceIte, decide_true, decide_false, Bool.false_eq_true, Bool.and_true, Bool.and_false, Bool.true_and, Bool.false_and, Bool.or_false, Bool.false_or, Bool.or_true, Bool.true_or, A4, hz', hc]
            · by_cases hv : m.2 223 (p * 20 + k) = m.2 223 (p * 20 + i)
              · simp (disch := first | omega | decide) only [↓neg1, nlit, rI, rL, rI2, rL1, nI_add, pk_mul, sbT, dvT, nmd, ixT, ↓ibT, ltT, ltF, leT, leF, eqT, eqF, nM_ltT, nM_ltF, nM_leT, nM_leF, nM_eqF, nM_eqF', nbT0, nbT1, oI_s, oI_n, natF, natT, nltT, nltF, nleT, nleF, ↓reduceIte, lgc, not_true_eq_false, not_false_eq_true, or_false, false_or, or_true, true_or, and_true, true_and, and_false, false_and, ne_eq, eq_self, or_self, and_self, obs, ↓jn, ↓lt, ↓reduceIte, decide_true, decide_false, Bool.false_eq_true, Bool.and_true, Bool.and_false, Bool.true_and, Bool.false_and, Bool.or_false, Bool.false_or, Bool.or_true, Bool.true_or, A4, hz', A5, hc, hv, cntN_s, e392]
              · simp (disch := first | omega | decide) only [↓neg1, nlit, rI, rL, rI2, rL1, nI_add, pk_mul, sbT, dvT, nmd, ixT, ↓ibT, ltT, ltF, leT, leF, eqT, eqF, nM_ltT, nM_ltF, nM_leT, nM_leF, nM_eqF, nM_eqF', nbT0, nbT1, oI_s, oI_n, natF, natT, nltT, nltF, nleT, nleF, ↓reduceIte, lgc, not_true_eq_false, not_false_eq_true, or_false, false_or, or_true, true_or, and_true, true_and, and_false, false_and, ne_eq, eq_self, or_self, and_self, obs, ↓jn, ↓lt, ↓reduceIte, decide_true, decide_false, Bool.false_eq_true, Bool.and_true, Bool.and_false, Bool.true_and, Bool.false_and, Bool.or_false, Bool.false_or, Bool.or_true, Bool.true_or, A4, hz', A5, hc, hv, cntN_s, e392]
          · by_cases h1 : smn m p (m.2 223 (p * 20 + i)) = 1
            · (try dsimp only); repeat (first | with_reducible refine wpl ?_ | with_reducible refine wpj ?_ | with_reducible refine wpSl ?_ | with_reducible refine wpSr ?_ | with_reducible refine wpS ?_ | ((with_reducible refine wpt ?_ ?_); · simp (disch := first | omega | decide) only [↓neg1, nlit, rI, rL, rI2, rL1, nI_add, pk_mul, sbT, dvT, nmd, ixT, ↓ibT, ltT, ltF, leT, leF, eqT, eqF, nM_ltT, nM_ltF, nM_leT, nM_leF, nM_eqF, nM_eqF', nbT0, nbT1, oI_s, oI_n, natF, natT, nltT, nltF, nleT, nleF, ↓reduceIte, lgc, not_true_eq_false, not_false_eq_true, or_false, false_or, or_true, true_or, and_true, true_and, and_false, false_and, ne_eq, eq_self, or_self, and_self, h1]; done) | ((with_reducible refine wpf ?_ ?_); · simp (disch := first | omega | decide) only [↓neg1, nlit, rI, rL, rI2, rL1, nI_add, pk_mul, sbT, dvT, nmd, ixT, ↓ibT, ltT, ltF, leT, leF, eqT, eqF, nM_ltT, nM_ltF, nM_leT, nM_leF, nM_eqF, nM_eqF', nbT0, nbT1, oI_s, oI_n, natF, natT, nltT, nltF, nleT, nleF, ↓reduceIte, lgc, not_true_eq_false, not_false_eq_true, or_false, false_or, or_true, true_or, and_true, true_and, and_false, false_and, ne_eq, eq_self, or_self, and_self, h1]; done))
              rw [decide_eq_true h1]
              rfl
            · (try dsimp only); repeat (first | with_reducible refine wpl ?_ | with_reducible refine wpj ?_ | with_reducible refine wpSl ?_ | with_reducible refine wpSr ?_ | with_reducible refine wpS ?_ | ((with_reducible refine wpt ?_ ?_); · simp (disch := first | omega | decide) only [↓neg1, nlit, rI, rL, rI2, rL1, nI_add, pk_mul, sbT, dvT, nmd, ixT, ↓ibT, ltT, ltF, leT, leF, eqT, eqF, nM_ltT, nM_ltF, nM_leT, nM_leF, nM_eqF, nM_eqF', nbT0, nbT1, oI_s, oI_n, natF, natT, nltT, nltF, nleT, nleF, ↓reduceIte, lgc, not_true_eq_false, not_false_eq_true, or_false, false_or, or_true, true_or, and_true, true_and, and_false, false_and, ne_eq, eq_self, or_self, and_self, h1]; done) | ((with_reducible refine wpf ?_ ?_); · simp (disch := first | omega | decide) only [↓neg1, nlit, rI, rL, rI2, rL1, nI_add, pk_mul, sbT, dvT, nmd, ixT, ↓ibT, ltT, ltF, leT, leF, eqT, eqF, nM_ltT, nM_ltF, nM_leT, nM_leF, nM_eqF, nM_eqF', nbT0, nbT1, oI_s, oI_n, natF, natT, nltT, nltF, nleT, nleF, ↓reduceIte, lgc, not_true_eq_false, not_false_eq_true, or_false, false_or, or_true, true_or, and_true, true_and, and_false, false_and, ne_eq, eq_self, or_self, and_self, h1]; done))
              rw [decide_eq_false h1]
              rfl
