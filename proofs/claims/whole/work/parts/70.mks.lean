/-! MARKS, their PAIRS, ELEMENTS and MEMBERS -/
/-- texts -/
def chr (j k : Nat) : Nat := ix ((sB j).getD k 0)
def asc (j : Nat) : Bool := (sB j).all (fun z => decide (z = nI (ix z)) && decide (ix z < 128))
theorem asc_at {j k : Nat} (h : asc j = true) (hk : k < (sB j).length) : (sB j).getD k 0 = nI (chr j k) ∧ chr j k < 128 := by
  have hm : (sB j).getD k 0 ∈ sB j := by
    rw [List.getD_eq_getElem?_getD, List.getElem?_eq_getElem hk]
    exact List.getElem_mem hk
  have := List.all_eq_true.mp h _ hm
  rw [Bool.and_eq_true] at this
  exact ⟨of_decide_eq_true this.1, of_decide_eq_true this.2⟩
theorem e145 {n j : Nat} (hl : (sB j).length < 1000) : d_145 n j = some (nI (sB j).length) := by
  have e147 : d_147 n j = some 0 := by
    unfold d_147
    simp only [jn]
    rw [if_neg ne10, if_pos (show nby 0 by decide)]
  unfold d_145
  rw [e147]
  show some (nI (sB j).length >>> ((0 : Int32) &&& 31)) = _
  rw [pk_shrN (by omega) _ 0 (by decide)]
  exact congrArg (fun z => some (nI z)) (by omega)
theorem chr_n {z : Nat} (h : z < 128) : ((((nI z) &&& 255 : Int32).toUInt32 % 65536).toInt32) = nI z := by
  have : ∀ q : Fin 128, ((((nI q.1) &&& 255 : Int32).toUInt32 % 65536).toInt32) = nI q.1 := by decide +kernel
  exact this ⟨z, h⟩
theorem ncn {z : Nat} (h : z < 128) : nc (nI z) := by
  have : ∀ q : Fin 128, nc (nI q.1) := by decide +kernel
  exact this ⟨z, h⟩
theorem e146 {n j k : Nat} (h : asc j = true) (hl : (sB j).length < 1000) (hk : k < (sB j).length) : d_146 n j (nI k) = some (nI (chr j k)) := by
  obtain ⟨h1, h2⟩ := asc_at h hk
  have e148 : d_148 n j = some 1 := by
    unfold d_148
    simp only [jn]
    rw [if_neg ne10, if_pos trivial, if_pos (Or.inr rfl)]
  have e155 : d_155 n (nI k) (Int32.ofNat (sB j).length) = some (nI k) := by
    unfold d_155
    simp only [jn]
    rw [if_neg (nI_pos (by omega)), if_pos (show nI k < Int32.ofNat (sB j).length from nI_lt hk (by omega))]
  have e149 : d_149 n (nI k) (Int32.ofNat (sB j).length) = some () := by
    unfold d_149
    rw [e155]
    rfl
  have e150 : d_150 n j (nI k) = some (nI (chr j k)) := by
    unfold d_150
    rw [e149]
    show (if ib (nI k) (sB j).length then _ else none) = _
    rw [if_pos (ib_n hk (by omega)), ix_n (by omega), h1, chr_n h2, if_pos (ncn h2)]
  unfold d_146
  rw [e148]
  show (if (1 : Int32) = 0 then none else _) = _
  rw [if_neg ne10, e150]
  show (if nc (nI (chr j k)) then _ else none) = _
  rw [if_pos (ncn h2)]
def pkN (j : Nat) : Nat → Int64
  | 0 => 0
  | k + 1 => (pkN j k <<< ((8 : Int32).toInt64 &&& 63)) ||| (nI (chr j k)).toInt64
theorem e351 {n j : Nat} (hn : 1000 ≤ n) (h : asc j = true) (hl : (sB j).length < 1000) : d_351 n j = some (pkN j (sB j).length) := by
  unfold d_351
  refine bwo (fun k => (pkN j k, nI k)) (pkN j (sB j).length) (cnt := (sB j).length) (by omega) rfl ?_ (fun k hk => ?_) rfl
  · simp (disch := first | omega | decide) only [↓neg1, nlit, rI, rL, rI2, rL1, nI_add, pk_mul, sbT, dvT, nmd, ixT, ↓ibT, ltT, ltF, leT, leF, eqT, eqF, nM_ltT, nM_ltF, nM_leT, nM_leF, nM_eqF, nM_eqF', nbT0, nbT1, oI_s, oI_n, natF, natT, nltT, nltF, nleT, nleF, ↓reduceIte, lgc, not_true_eq_false, not_false_eq_true, or_false, false_or, or_true, true_or, and_true, true_and, and_false, false_and, ne_eq, eq_self, or_self, and_self, obs, ↓jn, ↓lt, ↓reduceIte, decide_true, decide_false, Bool.false_eq_true, Bool.and_true, Bool.and_false, Bool.true_and, Bool.false_and, Bool.or_false, Bool.false_or, Bool.or_true, Bool.true_or, e145 hl]
  · simp (disch := first | omega | decide) only [↓neg1, nlit, rI, rL, rI2, rL1, nI_add, pk_mul, sbT, dvT, nmd, ixT, ↓ibT, ltT, ltF, leT, leF, eqT, eqF, nM_ltT, nM_ltF, nM_leT, nM_leF, nM_eqF, nM_eqF', nbT0, nbT1, oI_s, oI_n, natF, natT, nltT, nltF, nleT, nleF, ↓reduceIte, lgc, not_true_eq_false, not_false_eq_true, or_false, false_or, or_true, true_or, and_true, true_and, and_false, false_and, ne_eq, eq_self, or_self, and_self, obs, ↓jn, ↓lt, ↓reduceIte, decide_true, decide_false, Bool.false_eq_true, Bool.and_true, Bool.and_false, Bool.true_and, Bool.false_and, Bool.or_false, Bool.false_or, Bool.or_true, Bool.true_or, e145 hl, e146 h hl hk, pkN]
theorem e370 {n j : Nat} (hn : 1000 ≤ n) (h : asc j = true) (hl : (sB j).length < 1000) : d_370 n j = some (pkN j (sB j).length) := by
  unfold d_370
  refine bwo (fun k => (pkN j k, nI k)) (pkN j (sB j).length) (cnt := (sB j).length) (by omega) rfl ?_ (fun k hk => ?_) rfl
  · simp (disch := first | omega | decide) only [↓neg1, nlit, rI, rL, rI2, rL1, nI_add, pk_mul, sbT, dvT, nmd, ixT, ↓ibT, ltT, ltF, leT, leF, eqT, eqF, nM_ltT, nM_ltF, nM_leT, nM_leF, nM_eqF, nM_eqF', nbT0, nbT1, oI_s, oI_n, natF, natT, nltT, nltF, nleT, nleF, ↓reduceIte, lgc, not_true_eq_false, not_false_eq_true, or_false, false_or, or_true, true_or, and_true, true_and, and_false, false_and, ne_eq, eq_self, or_self, and_self, obs, ↓jn, ↓lt, ↓reduceIte, decide_true, decide_false, Bool.false_eq_true, Bool.and_true, Bool.and_false, Bool.true_and, Bool.false_and, Bool.or_false, Bool.false_or, Bool.or_true, Bool.true_or, e145 hl]
  · simp (disch := first | omega | decide) only [↓neg1, nlit, rI, rL, rI2, rL1, nI_add, pk_mul, sbT, dvT, nmd, ixT, ↓ibT, ltT, ltF, leT, leF, eqT, eqF, nM_ltT, nM_ltF, nM_leT, nM_leF, nM_eqF, nM_eqF', nbT0, nbT1, oI_s, oI_n, natF, natT, nltT, nltF, nleT, nleF, ↓reduceIte, lgc, not_true_eq_false, not_false_eq_true, or_false, false_or, or_true, true_or, and_true, true_and, and_false, false_and, ne_eq, eq_self, or_self, and_self, obs, ↓jn, ↓lt, ↓reduceIte, decide_true, decide_false, Bool.false_eq_true, Bool.and_true, Bool.and_false, Bool.true_and, Bool.false_and, Bool.or_false, Bool.false_or, Bool.or_true, Bool.true_or, e145 hl, e146 h hl hk, pkN]
theorem e351at {n : Nat} (hn : 1000 ≤ n) : d_351 n 40 = some 24948 := by
  rw [e351 hn (by decide +kernel) (by decide +kernel)]
  exact congrArg some (by decide +kernel)
theorem e351at' {n : Nat} (hn : 1000 ≤ n) : d_351 n 41 = some 24948 := by
  rw [e351 hn (by decide +kernel) (by decide +kernel)]
  exact congrArg some (by decide +kernel)
/-- one MARK -/
theorem nb0 {v : Int32} (h : nb v) (h0 : ¬ v = nI 0) : v = nI 1 := h.resolve_left h0
theorem e227 {n x y : Nat} {c m : cS} (h : MKR c m x y) : d_227 n (nI x) c = some (m.1 224 y) := by
  obtain ⟨h1, -, -, h4, h5, -, -, h8, -⟩ := h
  unfold d_227
  by_cases h0 : m.1 224 y = nI 0
  · rw [if_pos h0] at h8
    simp (disch := first | omega | decide) only [↓neg1, nlit, rI, rL, rI2, rL1, nI_add, pk_mul, sbT, dvT, nmd, ixT, ↓ibT, ltT, ltF, leT, leF, eqT, eqF, nM_ltT, nM_ltF, nM_leT, nM_leF, nM_eqF, nM_eqF', nbT0, nbT1, oI_s, oI_n, natF, natT, nltT, nltF, nleT, nleF, ↓reduceIte, lgc, not_true_eq_false, not_false_eq_true, or_false, false_or, or_true, true_or, and_true, true_and, and_false, false_and, ne_eq, eq_self, or_self, and_self, obs, ↓jn, ↓lt, ↓reduceIte, decide_true, decide_false, Bool.false_eq_true, Bool.and_true, Bool.and_false, Bool.true_and, Bool.false_and, Bool.or_false, Bool.false_or, Bool.or_true, Bool.true_or, h8, h0]
  · rw [if_neg h0] at h8
    simp (disch := first | omega | decide) only [↓neg1, nlit, rI, rL, rI2, rL1, nI_add, pk_mul, sbT, dvT, nmd, ixT, ↓ibT, ltT, ltF, leT, leF, eqT, eqF, nM_ltT, nM_ltF, nM_leT, nM_leF, nM_eqF, nM_eqF', nbT0, nbT1, oI_s, oI_n, natF, natT, nltT, nltF, nleT, nleF, ↓reduceIte, lgc, not_true_eq_false, not_false_eq_true, or_false, false_or, or_true, true_or, and_true, true_and, and_false, false_and, ne_eq, eq_self, or_self, and_self, obs, ↓jn, ↓lt, ↓reduceIte, decide_true, decide_false, Bool.false_eq_true, Bool.and_true, Bool.and_false, Bool.true_and, Bool.false_and, Bool.or_false, Bool.false_or, Bool.or_true, Bool.true_or, h8, nb0 h4 h0]
theorem MKR_pr {c m : cS} {x y : Nat} (h : MKR c m x y) (h0 : m.1 224 y = nI 0) : x < 4096 ∧ prn m y ≤ 4 ∧ c.1 136 x = nI (prn m y) ∧ ∀ q, q < prn m y → c.2 139 (x * 4 + q) = m.2 226 (y * 4 + q) := by
  obtain ⟨h1, -, -, h4, h5, -, -, h8, h9⟩ := h
  rw [if_pos h0] at h8
  exact ⟨h1, h5, h8, fun q hq => (h9 q hq).1⟩
theorem pOf_lt {m : cS} {y q : Nat} {v : Int64} (h : pOf m y v = some q) : q < prn m y := (ff_some h).1
theorem e231 {n x y o : Nat} {c m : cS} (hn : 1000 ≤ n) (ho : o < ocn m) (hO : OOS c m) (h : MKR c m x y) (h0 : m.1 224 y = nI 0) : d_231 n (nI x) o c = some (oI (elI m y o)) := by
  obtain ⟨a1, a2, a3, a4⟩ := MKR_pr h h0
  have hr := OOS_at hO ho
  have he := OOS_el hO ho
  obtain ⟨-, -, -, -, -, -, -, -, h9⟩ := h
  unfold d_231
  have e235' := fun v => e235 (n := n) (o := o) (v := v) (c := c) (m := m) (by omega) he.2.1 he.2.2.2 (fun e h => hr.2.2.2.1 e h)
  have e230' := fun v => e230 (n := n) (v := v) (by omega) a1 a2 a3 a4
  unfold elI
  cases hp : pOf m y 24948 with
  | none =>
    simp (disch := first | omega | decide) only [↓neg1, nlit, rI, rL, rI2, rL1, nI_add, pk_mul, sbT, dvT, nmd, ixT, ↓ibT, ltT, ltF, leT, leF, eqT, eqF, nM_ltT, nM_ltF, nM_leT, nM_leF, nM_eqF, nM_eqF', nbT0, nbT1, oI_s, oI_n, natF, natT, nltT, nltF, nleT, nleF, ↓reduceIte, lgc, not_true_eq_false, not_false_eq_true, or_false, false_or, or_true, true_or, and_true, true_and, and_false, false_and, ne_eq, eq_self, or_self, and_self, obs, ↓jn, ↓lt, ↓reduceIte, decide_true, decide_false, Bool.false_eq_true, Bool.and_true, Bool.and_false, Bool.true_and, Bool.false_and, Bool.or_false, Bool.false_or, Bool.or_true, Bool.true_or, e351at hn, e230', hp]
    all_goals rfl
  | some q =>
    have hq := pOf_lt hp
    obtain ⟨-, b2, ⟨s, s1, s2, b3⟩, b4, -⟩ := h9 q hq
    by_cases h3 : s = 3
    · subst h3
      simp (disch := first | omega | decide) only [↓neg1, nlit, rI, rL, rI2, rL1, nI_add, pk_mul, sbT, dvT, nmd, ixT, ↓ibT, ltT, ltF, leT, leF, eqT, eqF, nM_ltT, nM_ltF, nM_leT, nM_leF, nM_eqF, nM_eqF', nbT0, nbT1, oI_s, oI_n, natF, natT, nltT, nltF, nleT, nleF, ↓reduceIte, lgc, not_true_eq_false, not_false_eq_true, or_false, false_or, or_true, true_or, and_true, true_and, and_false, false_and, ne_eq, eq_self, or_self, and_self, obs, ↓jn, ↓lt, ↓reduceIte, decide_true, decide_false, Bool.false_eq_true, Bool.and_true, Bool.and_false, Bool.true_and, Bool.false_and, Bool.or_false, Bool.false_or, Bool.or_true, Bool.true_or, e351at hn, e230', hp, b2, b3, b4, e235']
    · simp (disch := first | omega | decide) only [↓neg1, nlit, rI, rL, rI2, rL1, nI_add, pk_mul, sbT, dvT, nmd, ixT, ↓ibT, ltT, ltF, leT, leF, eqT, eqF, nM_ltT, nM_ltF, nM_leT, nM_leF, nM_eqF, nM_eqF', nbT0, nbT1, oI_s, oI_n, natF, natT, nltT, nltF, nleT, nleF, ↓reduceIte, lgc, not_true_eq_false, not_false_eq_true, or_false, false_or, or_true, true_or, and_true, true_and, and_false, false_and, ne_eq, eq_self, or_self, and_self, obs, ↓jn, ↓lt, ↓reduceIte, decide_true, decide_false, Bool.false_eq_true, Bool.and_true, Bool.and_false, Bool.true_and, Bool.false_and, Bool.or_false, Bool.false_or, Bool.or_true, Bool.true_or, e351at hn, e230', hp, b2, b3, b4, e235']
      all_goals rfl
theorem RK_mb {c m : cS} {k j : Nat} (h : RK c m k) (hj : j < kn m k) : j < 4 ∧ c.2 (kA k + 1) j = m.2 191 (4 * k + j) ∧ nb (m.1 192 (4 * k + j)) ∧ c.1 (kA k + 2) j = txt m k j ∧ nb (m.1 193 (4 * k + j)) ∧ c.1 (kA k + 3) j = m.1 193 (4 * k + j) := by
  obtain ⟨-, h2, -, -, h5, -⟩ := h
  obtain ⟨q1, q2, q3, q4, q5, -⟩ := h5 j hj
  exact ⟨by omega, q1, q2, q3, q4, q5⟩
theorem e232 {n x y k j : Nat} {c m : cS} (hn : 1000 ≤ n) (hK : RK c m k) (hj : j < kn m k) (h : MKR c m x y) (h0 : m.1 224 y = nI 0) : d_232 n (nI x) k (nI j) c = some (mbS m y k j) := by
  obtain ⟨a1, a2, a3, a4⟩ := MKR_pr h h0
  obtain ⟨k1, k2, k3, k4, k5, k6⟩ := RK_mb hK hj
  obtain ⟨-, -, -, -, -, -, -, -, h9⟩ := h
  have e230' := fun v => e230 (n := n) (v := v) (by omega) a1 a2 a3 a4
  unfold d_232 mbS
  cases hp : pOf m y (m.2 191 (4 * k + j)) with
  | none =>
    by_cases hd : m.1 193 (4 * k + j) = nI 0
    · simp (disch := first | omega | decide) only [↓neg1, nlit, rI, rL, rI2, rL1, nI_add, pk_mul, sbT, dvT, nmd, ixT, ↓ibT, ltT, ltF, leT, leF, eqT, eqF, nM_ltT, nM_ltF, nM_leT, nM_leF, nM_eqF, nM_eqF', nbT0, nbT1, oI_s, oI_n, natF, natT, nltT, nltF, nleT, nleF, ↓reduceIte, lgc, not_true_eq_false, not_false_eq_true, or_false, false_or, or_true, true_or, and_true, true_and, and_false, false_and, ne_eq, eq_self, or_self, and_self, obs, ↓jn, ↓lt, ↓reduceIte, decide_true, decide_false, Bool.false_eq_true, Bool.and_true, Bool.and_false, Bool.true_and, Bool.false_and, Bool.or_false, Bool.false_or, Bool.or_true, Bool.true_or, k2, e230', hp, k6, hd]
    · simp (disch := first | omega | decide) only [↓neg1, nlit, rI, rL, rI2, rL1, nI_add, pk_mul, sbT, dvT, nmd, ixT, ↓ibT, ltT, ltF, leT, leF, eqT, eqF, nM_ltT, nM_ltF, nM_leT, nM_leF, nM_eqF, nM_eqF', nbT0, nbT1, oI_s, oI_n, natF, natT, nltT, nltF, nleT, nleF, ↓reduceIte, lgc, not_true_eq_false, not_false_eq_true, or_false, false_or, or_true, true_or, and_true, true_and, and_false, false_and, ne_eq, eq_self, or_self, and_self, obs, ↓jn, ↓lt, ↓reduceIte, decide_true, decide_false, Bool.false_eq_true, Bool.and_true, Bool.and_false, Bool.true_and, Bool.false_and, Bool.or_false, Bool.false_or, Bool.or_true, Bool.true_or, k2, e230', hp, k6, k4, hd]
  | some q =>
    have hq := pOf_lt hp
    obtain ⟨-, b2, ⟨s, s1, s2, b3⟩, b4, -⟩ := h9 q hq
    by_cases h3 : m.1 227 (y * 4 + q) = txt m k j
    · simp (disch := first | omega | decide) only [↓neg1, nlit, rI, rL, rI2, rL1, nI_add, pk_mul, sbT, dvT, nmd, ixT, ↓ibT, ltT, ltF, leT, leF, eqT, eqF, nM_ltT, nM_ltF, nM_leT, nM_leF, nM_eqF, nM_eqF', nbT0, nbT1, oI_s, oI_n, natF, natT, nltT, nltF, nleT, nleF, ↓reduceIte, lgc, not_true_eq_false, not_false_eq_true, or_false, false_or, or_true, true_or, and_true, true_and, and_false, false_and, ne_eq, eq_self, or_self, and_self, obs, ↓jn, ↓lt, ↓reduceIte, decide_true, decide_false, Bool.false_eq_true, Bool.and_true, Bool.and_false, Bool.true_and, Bool.false_and, Bool.or_false, Bool.false_or, Bool.or_true, Bool.true_or, k2, e230', hp, b2, h3, k4]
    · simp (disch := first | omega | decide) only [↓neg1, nlit, rI, rL, rI2, rL1, nI_add, pk_mul, sbT, dvT, nmd, ixT, ↓ibT, ltT, ltF, leT, leF, eqT, eqF, nM_ltT, nM_ltF, nM_leT, nM_leF, nM_eqF, nM_eqF', nbT0, nbT1, oI_s, oI_n, natF, natT, nltT, nltF, nleT, nleF, ↓reduceIte, lgc, not_true_eq_false, not_false_eq_true, or_false, false_or, or_true, true_or, and_true, true_and, and_false, false_and, ne_eq, eq_self, or_self, and_self, obs, ↓jn, ↓lt, ↓reduceIte, decide_true, decide_false, Bool.false_eq_true, Bool.and_true, Bool.and_false, Bool.true_and, Bool.false_and, Bool.or_false, Bool.false_or, Bool.or_true, Bool.true_or, k2, e230', hp, b2, h3, k4]
theorem e233 {n x y k j : Nat} {c m : cS} (hn : 1000 ≤ n) (hK : RK c m k) (hj : j < kn m k) (h : MKR c m x y) (h0 : m.1 224 y = nI 0) : d_233 n (nI x) k (nI j) c = some (match pOf m y (m.2 191 (4 * k + j)) with | some q => m.2 228 (y * 4 + q) | none => c.2 (kA k + 4) j) := by
  obtain ⟨a1, a2, a3, a4⟩ := MKR_pr h h0
  obtain ⟨k1, k2, k3, k4, k5, k6⟩ := RK_mb hK hj
  obtain ⟨-, -, -, -, -, -, -, -, h9⟩ := h
  have e230' := fun v => e230 (n := n) (v := v) (by omega) a1 a2 a3 a4
  unfold d_233
  cases hp : pOf m y (m.2 191 (4 * k + j)) with
  | none => simp (disch := first | omega | decide) only [↓neg1, nlit, rI, rL, rI2, rL1, nI_add, pk_mul, sbT, dvT, nmd, ixT, ↓ibT, ltT, ltF, leT, leF, eqT, eqF, nM_ltT, nM_ltF, nM_leT, nM_leF, nM_eqF, nM_eqF', nbT0, nbT1, oI_s, oI_n, natF, natT, nltT, nltF, nleT, nleF, ↓reduceIte, lgc, not_true_eq_false, not_false_eq_true, or_false, false_or, or_true, true_or, and_true, true_and, and_false, false_and, ne_eq, eq_self, or_self, and_self, obs, ↓jn, ↓lt, ↓reduceIte, decide_true, decide_false, Bool.false_eq_true, Bool.and_true, Bool.and_false, Bool.true_and, Bool.false_and, Bool.or_false, Bool.false_or, Bool.or_true, Bool.true_or, k2, e230', hp]
  | some q =>
    have hq := pOf_lt hp
    obtain ⟨-, b2, ⟨s, s1, s2, b3⟩, b4, -⟩ := h9 q hq
    simp (disch := first | omega | decide) only [↓neg1, nlit, rI, rL, rI2, rL1, nI_add, pk_mul, sbT, dvT, nmd, ixT, ↓ibT, ltT, ltF, leT, leF, eqT, eqF, nM_ltT, nM_ltF, nM_leT, nM_leF, nM_eqF, nM_eqF', nbT0, nbT1, oI_s, oI_n, natF, natT, nltT, nltF, nleT, nleF, ↓reduceIte, lgc, not_true_eq_false, not_false_eq_true, or_false, false_or, or_true, true_or, and_true, true_and, and_false, false_and, ne_eq, eq_self, or_self, and_self, obs, ↓jn, ↓lt, ↓reduceIte, decide_true, decide_false, Bool.false_eq_true, Bool.and_true, Bool.and_false, Bool.true_and, Bool.false_and, Bool.or_false, Bool.false_or, Bool.or_true, Bool.true_or, k2, e230', hp, b4]
/-! the reference's -/
/-- MARK y of the reference, in row r -/
def MR (m : cS) (y : Nat) : Prop := y < 24360 ∧ nb (m.1 224 y) ∧ prn m y ≤ 4 ∧ m.1 225 y = nI (prn m y)
theorem MR_of {c m : cS} {x y : Nat} (h : MKR c m x y) (hy : y < 24360) : MR m y := ⟨hy, h.2.2.2.1, h.2.2.2.2.1, h.2.2.2.2.2.1⟩
theorem e430 {n y o : Nat} {c m u : cS} (hn : 1000 ≤ n) (hA : AG m u) (ho : o < ocn m) (hO : OOS c m) (h : MR m y) : d_430 n (nI y) (nI o) u = some (match elI m y o with | some e => nI e | none => -2) := by
  obtain ⟨h1, h2, h3, h4⟩ := h
  obtain ⟨A1, A2, A3, A4, A5, A6, A7, A8, A9, A10⟩ := id hA
  have he := OOS_el hO ho
  have ho4 : o < 4 := by have := hO.1; omega
  have e377' := fun v => e377 (n := n) (v := v) (by omega) hA ho4 he.2.1 he.2.2.1
  unfold d_430
  refine bwf (fun k => nI k) (Sum.inl ()) (fun k => Sum.inr (nI (y * 4 + k))) (fun k => decide (m.2 226 (y * 4 + k) = 24948)) (cnt := prn m y) (by omega) rfl ?_ (fun j hj => ?_) ?_
  · simp (disch := first | omega | decide) only [↓neg1, nlit, rI, rL, rI2, rL1, nI_add, pk_mul, sbT, dvT, nmd, ixT, ↓ibT, ltT, ltF, leT, leF, eqT, eqF, nM_ltT, nM_ltF, nM_leT, nM_leF, nM_eqF, nM_eqF', nbT0, nbT1, oI_s, oI_n, natF, natT, nltT, nltF, nleT, nleF, ↓reduceIte, lgc, not_true_eq_false, not_false_eq_true, or_false, false_or, or_true, true_or, and_true, true_and, and_false, false_and, ne_eq, eq_self, or_self, and_self, obs, ↓jn, ↓lt, ↓reduceIte, decide_true, decide_false, Bool.false_eq_true, Bool.and_true, Bool.and_false, Bool.true_and, Bool.false_and, Bool.or_false, Bool.false_or, Bool.or_true, Bool.true_or, A7, h4]
  · by_cases hv : m.2 226 (y * 4 + j) = 24948
    · simp (disch := first | omega | decide) only [↓neg1, nlit, rI, rL, rI2, rL1, nI_add, pk_mul, sbT, dvT, nmd, ixT, ↓ibT, ltT, ltF, leT, leF, eqT, eqF, nM_ltT, nM_ltF, nM_leT, nM_leF, nM_eqF, nM_eqF', nbT0, nbT1, oI_s, oI_n, natF, natT, nltT, nltF, nleT, nleF, ↓reduceIte, lgc, not_true_eq_false, not_false_eq_true, or_false, false_or, or_true, true_or, and_true, true_and, and_false, false_and, ne_eq, eq_self, or_self, and_self, obs, ↓jn, ↓lt, ↓reduceIte, decide_true, decide_false, Bool.false_eq_true, Bool.and_true, Bool.and_false, Bool.true_and, Bool.false_and, Bool.or_false, Bool.false_or, Bool.or_true, Bool.true_or, A7, A8, h4, hv]
    · simp (disch := first | omega | decide) only [↓neg1, nlit, rI, rL, rI2, rL1, nI_add, pk_mul, sbT, dvT, nmd, ixT, ↓ibT, ltT, ltF, leT, leF, eqT, eqF, nM_ltT, nM_ltF, nM_leT, nM_leF, nM_eqF, nM_eqF', nbT0, nbT1, oI_s, oI_n, natF, natT, nltT, nltF, nleT, nleF, ↓reduceIte, lgc, not_true_eq_false, not_false_eq_true, or_false, false_or, or_true, true_or, and_true, true_and, and_false, false_and, ne_eq, eq_self, or_self, and_self, obs, ↓jn, ↓lt, ↓reduceIte, decide_true, decide_false, Bool.false_eq_true, Bool.and_true, Bool.and_false, Bool.true_and, Bool.false_and, Bool.or_false, Bool.false_or, Bool.or_true, Bool.true_or, A7, A8, h4, hv]
  · unfold elI
    show Sum.elim _ _ ((pOf m y 24948).elim _ _) = _
    cases hp : pOf m y 24948 with
    | none => rfl
    | some q =>
      have hq := pOf_lt hp
      by_cases h3 : m.1 227 (y * 4 + q) = nI 3
      · cases he2 : eOf m o (m.2 228 (y * 4 + q)) with
        | none => simp (disch := first | omega | decide) only [↓neg1, nlit, rI, rL, rI2, rL1, nI_add, pk_mul, sbT, dvT, nmd, ixT, ↓ibT, ltT, ltF, leT, leF, eqT, eqF, nM_ltT, nM_ltF, nM_leT, nM_leF, nM_eqF, nM_eqF', nbT0, nbT1, oI_s, oI_n, natF, natT, nltT, nltF, nleT, nleF, ↓reduceIte, lgc, not_true_eq_false, not_false_eq_true, or_false, false_or, or_true, true_or, and_true, true_and, and_false, false_and, ne_eq, eq_self, or_self, and_self, obs, ↓jn, ↓lt, ↓reduceIte, decide_true, decide_false, Bool.false_eq_true, Bool.and_true, Bool.and_false, Bool.true_and, Bool.false_and, Bool.or_false, Bool.false_or, Bool.or_true, Bool.true_or, Option.elim, Sum.elim_inr, A9, A10, h3, e377', he2]
        | some e =>
          have := (ff_some he2).1
          simp (disch := first | omega | decide) only [↓neg1, nlit, rI, rL, rI2, rL1, nI_add, pk_mul, sbT, dvT, nmd, ixT, ↓ibT, ltT, ltF, leT, leF, eqT, eqF, nM_ltT, nM_ltF, nM_leT, nM_leF, nM_eqF, nM_eqF', nbT0, nbT1, oI_s, oI_n, natF, natT, nltT, nltF, nleT, nleF, ↓reduceIte, lgc, not_true_eq_false, not_false_eq_true, or_false, false_or, or_true, true_or, and_true, true_and, and_false, false_and, ne_eq, eq_self, or_self, and_self, obs, ↓jn, ↓lt, ↓reduceIte, decide_true, decide_false, Bool.false_eq_true, Bool.and_true, Bool.and_false, Bool.true_and, Bool.false_and, Bool.or_false, Bool.false_or, Bool.or_true, Bool.true_or, Option.elim, Sum.elim_inr, A9, A10, h3, e377', he2]
      · simp (disch := first | omega | decide) only [↓neg1, nlit, rI, rL, rI2, rL1, nI_add, pk_mul, sbT, dvT, nmd, ixT, ↓ibT, ltT, ltF, leT, leF, eqT, eqF, nM_ltT, nM_ltF, nM_leT, nM_leF, nM_eqF, nM_eqF', nbT0, nbT1, oI_s, oI_n, natF, natT, nltT, nltF, nleT, nleF, ↓reduceIte, lgc, not_true_eq_false, not_false_eq_true, or_false, false_or, or_true, true_or, and_true, true_and, and_false, false_and, ne_eq, eq_self, or_self, and_self, obs, ↓jn, ↓lt, ↓reduceIte, decide_true, decide_false, Bool.false_eq_true, Bool.and_true, Bool.and_false, Bool.true_and, Bool.false_and, Bool.or_false, Bool.false_or, Bool.or_true, Bool.true_or, Option.elim, Sum.elim_inr, A9, A10, h3]
theorem e431 {n y o : Nat} {c m u : cS} (hn : 1000 ≤ n) (hA : AG m u) (ho : o < ocn m) (hO : OOS c m) (h : MR m y) : d_431 n (nI y) (nI o) u = some (nI ((elI m y o).getD (ix (m.1 187 o)))) := by
  have ho4 : o < 4 := by have := hO.1; omega
  obtain ⟨t, t1, t2, -⟩ := (OOS_at hO ho).1.2.2.2.2.2.2.2.2.1
  have he := OOS_el hO ho
  unfold d_431
  cases hp : elI m y o with
  | none => simp (disch := first | omega | decide) only [↓neg1, nlit, rI, rL, rI2, rL1, nI_add, pk_mul, sbT, dvT, nmd, ixT, ↓ibT, ltT, ltF, leT, leF, eqT, eqF, nM_ltT, nM_ltF, nM_leT, nM_leF, nM_eqF, nM_eqF', nbT0, nbT1, oI_s, oI_n, natF, natT, nltT, nltF, nleT, nleF, ↓reduceIte, lgc, not_true_eq_false, not_false_eq_true, or_false, false_or, or_true, true_or, and_true, true_and, and_false, false_and, ne_eq, eq_self, or_self, and_self, obs, ↓jn, ↓lt, ↓reduceIte, decide_true, decide_false, Bool.false_eq_true, Bool.and_true, Bool.and_false, Bool.true_and, Bool.false_and, Bool.or_false, Bool.false_or, Bool.or_true, Bool.true_or, e430 hn hA ho hO h, hp, hA.1, t2, Option.getD_none]
            all_goals rfl
  | some e =>
    have : e < 12 := by
      unfold elI at hp
      split at hp
      · split at hp
        · have := (ff_some hp).1
          omega
        · cases hp
      · cases hp
    simp (disch := first | omega | decide) only [↓neg1, nlit, rI, rL, rI2, rL1, nI_add, pk_mul, sbT, dvT, nmd, ixT, ↓ibT, ltT, ltF, leT, leF, eqT, eqF, nM_ltT, nM_ltF, nM_leT, nM_leF, nM_eqF, nM_eqF', nbT0, nbT1, oI_s, oI_n, natF, natT, nltT, nltF, nleT, nleF, ↓reduceIte, lgc, not_true_eq_false, not_false_eq_true, or_false, false_or, or_true, true_or, and_true, true_and, and_false, false_and, ne_eq, eq_self, or_self, and_self, obs, ↓jn, ↓lt, ↓reduceIte, decide_true, decide_false, Bool.false_eq_true, Bool.and_true, Bool.and_false, Bool.true_and, Bool.false_and, Bool.or_false, Bool.false_or, Bool.or_true, Bool.true_or, e430 hn hA ho hO h, hp, Option.getD_some]
theorem e429 {n y k j : Nat} {c m u : cS} (hn : 1000 ≤ n) (hA : AG m u) (hk : k < 12) (hK : RK c m k) (hj : j < kn m k) (h : MR m y) : d_429 n (nI y) (nI k) (nI j) u = some (mbS m y k j, pL u 174 79 (mbV m y k j)) := by
  obtain ⟨h1, h2, h3, h4⟩ := h
  obtain ⟨A1, A2, A3, A4, A5, A6, A7, A8, A9, A10⟩ := id hA
  obtain ⟨k1, k2, k3, k4, k5, k6⟩ := RK_mb hK hj
  unfold d_429
  show Option.bind (whl _ _ _) _ = _
  refine bwf (fun k => nI k) (Sum.inl ()) (fun q => Sum.inr (nI (y * 4 + q))) (fun q => decide (m.2 226 (y * 4 + q) = m.2 191 (4 * k + j))) (cnt := prn m y) (by omega) rfl ?_ (fun q hq => ?_) ?_
  · simp (disch := first | omega | decide) only [↓neg1, nlit, rI, rL, rI2, rL1, nI_add, pk_mul, sbT, dvT, nmd, ixT, ↓ibT, ltT, ltF, leT, leF, eqT, eqF, nM_ltT, nM_ltF, nM_leT, nM_leF, nM_eqF, nM_eqF', nbT0, nbT1, oI_s, oI_n, natF, natT, nltT, nltF, nleT, nleF, ↓reduceIte, lgc, not_true_eq_false, not_false_eq_true, or_false, false_or, or_true, true_or, and_true, true_and, and_false, false_and, ne_eq, eq_self, or_self, and_self, obs, ↓jn, ↓lt, ↓reduceIte, decide_true, decide_false, Bool.false_eq_true, Bool.and_true, Bool.and_false, Bool.true_and, Bool.false_and, Bool.or_false, Bool.false_or, Bool.or_true, Bool.true_or, A7, h4]
  · by_cases hv : m.2 226 (y * 4 + q) = m.2 191 (4 * k + j)
    · simp (disch := first | omega | decide) only [↓neg1, nlit, rI, rL, rI2, rL1, nI_add, pk_mul, sbT, dvT, nmd, ixT, ↓ibT, ltT, ltF, leT, leF, eqT, eqF, nM_ltT, nM_ltF, nM_leT, nM_leF, nM_eqF, nM_eqF', nbT0, nbT1, oI_s, oI_n, natF, natT, nltT, nltF, nleT, nleF, ↓reduceIte, lgc, not_true_eq_false, not_false_eq_true, or_false, false_or, or_true, true_or, and_true, true_and, and_false, false_and, ne_eq, eq_self, or_self, and_self, obs, ↓jn, ↓lt, ↓reduceIte, decide_true, decide_false, Bool.false_eq_true, Bool.and_true, Bool.and_false, Bool.true_and, Bool.false_and, Bool.or_false, Bool.false_or, Bool.or_true, Bool.true_or, A1, A2, A7, A8, h4, hv]
    · simp (disch := first | omega | decide) only [↓neg1, nlit, rI, rL, rI2, rL1, nI_add, pk_mul, sbT, dvT, nmd, ixT, ↓ibT, ltT, ltF, leT, leF, eqT, eqF, nM_ltT, nM_ltF, nM_leT, nM_leF, nM_eqF, nM_eqF', nbT0, nbT1, oI_s, oI_n, natF, natT, nltT, nltF, nleT, nleF, ↓reduceIte, lgc, not_true_eq_false, not_false_eq_true, or_false, false_or, or_true, true_or, and_true, true_and, and_false, false_and, ne_eq, eq_self, or_self, and_self, obs, ↓jn, ↓lt, ↓reduceIte, decide_true, decide_false, Bool.false_eq_true, Bool.and_true, Bool.and_false, Bool.true_and, Bool.false_and, Bool.or_false, Bool.false_or, Bool.or_true, Bool.true_or, A1, A2, A7, A8, h4, hv]
  · unfold mbS mbV txt
    show Sum.elim _ _ ((pOf m y (m.2 191 (4 * k + j))).elim _ _) = _
    cases hp : pOf m y (m.2 191 (4 * k + j)) with
    | none =>
      by_cases q1 : m.1 193 (4 * k + j) = nI 0
      · simp (disch := first | omega | decide) only [↓neg1, nlit, rI, rL, rI2, rL1, nI_add, pk_mul, sbT, dvT, nmd, ixT, ↓ibT, ltT, ltF, leT, leF, eqT, eqF, nM_ltT, nM_ltF, nM_leT, nM_leF, nM_eqF, nM_eqF', nbT0, nbT1, oI_s, oI_n, natF, natT, nltT, nltF, nleT, nleF, ↓reduceIte, lgc, not_true_eq_false, not_false_eq_true, or_false, false_or, or_true, true_or, and_true, true_and, and_false, false_and, ne_eq, eq_self, or_self, and_self, obs, ↓jn, ↓lt, ↓reduceIte, decide_true, decide_false, Bool.false_eq_true, Bool.and_true, Bool.and_false, Bool.true_and, Bool.false_and, Bool.or_false, Bool.false_or, Bool.or_true, Bool.true_or, Option.elim, Sum.elim_inl, A1, A2, q1]
      · by_cases q2 : m.1 192 (4 * k + j) = nI 0
        · simp (disch := first | omega | decide) only [↓neg1, nlit, rI, rL, rI2, rL1, nI_add, pk_mul, sbT, dvT, nmd, ixT, ↓ibT, ltT, ltF, leT, leF, eqT, eqF, nM_ltT, nM_ltF, nM_leT, nM_leF, nM_eqF, nM_eqF', nbT0, nbT1, oI_s, oI_n, natF, natT, nltT, nltF, nleT, nleF, ↓reduceIte, lgc, not_true_eq_false, not_false_eq_true, or_false, false_or, or_true, true_or, and_true, true_and, and_false, false_and, ne_eq, eq_self, or_self, and_self, obs, ↓jn, ↓lt, ↓reduceIte, decide_true, decide_false, Bool.false_eq_true, Bool.and_true, Bool.and_false, Bool.true_and, Bool.false_and, Bool.or_false, Bool.false_or, Bool.or_true, Bool.true_or, Option.elim, Sum.elim_inl, A1, A2, q1, q2]
        · simp (disch := first | omega | decide) only [↓neg1, nlit, rI, rL, rI2, rL1, nI_add, pk_mul, sbT, dvT, nmd, ixT, ↓ibT, ltT, ltF, leT, leF, eqT, eqF, nM_ltT, nM_ltF, nM_leT, nM_leF, nM_eqF, nM_eqF', nbT0, nbT1, oI_s, oI_n, natF, natT, nltT, nltF, nleT, nleF, ↓reduceIte, lgc, not_true_eq_false, not_false_eq_true, or_false, false_or, or_true, true_or, and_true, true_and, and_false, false_and, ne_eq, eq_self, or_self, and_self, obs, ↓jn, ↓lt, ↓reduceIte, decide_true, decide_false, Bool.false_eq_true, Bool.and_true, Bool.and_false, Bool.true_and, Bool.false_and, Bool.or_false, Bool.false_or, Bool.or_true, Bool.true_or, Option.elim, Sum.elim_inl, A1, A2, q1, q2]
    | some q =>
      have hq := pOf_lt hp
      by_cases q2 : m.1 192 (4 * k + j) = nI 0
      · by_cases q1 : m.1 227 (y * 4 + q) = nI 1
        · simp (disch := first | omega | decide) only [↓neg1, nlit, rI, rL, rI2, rL1, nI_add, pk_mul, sbT, dvT, nmd, ixT, ↓ibT, ltT, ltF, leT, leF, eqT, eqF, nM_ltT, nM_ltF, nM_leT, nM_leF, nM_eqF, nM_eqF', nbT0, nbT1, oI_s, oI_n, natF, natT, nltT, nltF, nleT, nleF, ↓reduceIte, lgc, not_true_eq_false, not_false_eq_true, or_false, false_or, or_true, true_or, and_true, true_and, and_false, false_and, ne_eq, eq_self, or_self, and_self, obs, ↓jn, ↓lt, ↓reduceIte, decide_true, decide_false, Bool.false_eq_true, Bool.and_true, Bool.and_false, Bool.true_and, Bool.false_and, Bool.or_false, Bool.false_or, Bool.or_true, Bool.true_or, Option.elim, Sum.elim_inr, A1, A2, A9, A10, q1, q2]
        · simp (disch := first | omega | decide) only [↓neg1, nlit, rI, rL, rI2, rL1, nI_add, pk_mul, sbT, dvT, nmd, ixT, ↓ibT, ltT, ltF, leT, leF, eqT, eqF, nM_ltT, nM_ltF, nM_leT, nM_leF, nM_eqF, nM_eqF', nbT0, nbT1, oI_s, oI_n, natF, natT, nltT, nltF, nleT, nleF, ↓reduceIte, lgc, not_true_eq_false, not_false_eq_true, or_false, false_or, or_true, true_or, and_true, true_and, and_false, false_and, ne_eq, eq_self, or_self, and_self, obs, ↓jn, ↓lt, ↓reduceIte, decide_true, decide_false, Bool.false_eq_true, Bool.and_true, Bool.and_false, Bool.true_and, Bool.false_and, Bool.or_false, Bool.false_or, Bool.or_true, Bool.true_or, Option.elim, Sum.elim_inr, A1, A2, A9, A10, q1, q2]
      · by_cases q1 : m.1 227 (y * 4 + q) = nI 2
        · simp (disch := first | omega | decide) only [↓neg1, nlit, rI, rL, rI2, rL1, nI_add, pk_mul, sbT, dvT, nmd, ixT, ↓ibT, ltT, ltF, leT, leF, eqT, eqF, nM_ltT, nM_ltF, nM_leT, nM_leF, nM_eqF, nM_eqF', nbT0, nbT1, oI_s, oI_n, natF, natT, nltT, nltF, nleT, nleF, ↓reduceIte, lgc, not_true_eq_false, not_false_eq_true, or_false, false_or, or_true, true_or, and_true, true_and, and_false, false_and, ne_eq, eq_self, or_self, and_self, obs, ↓jn, ↓lt, ↓reduceIte, decide_true, decide_false, Bool.false_eq_true, Bool.and_true, Bool.and_false, Bool.true_and, Bool.false_and, Bool.or_false, Bool.false_or, Bool.or_true, Bool.true_or, Option.elim, Sum.elim_inr, A1, A2, A9, A10, q1, q2]
        · simp (disch := first | omega | decide) only [↓neg1, nlit, rI, rL, rI2, rL1, nI_add, pk_mul, sbT, dvT, nmd, ixT, ↓ibT, ltT, ltF, leT, leF, eqT, eqF, nM_ltT, nM_ltF, nM_leT, nM_leF, nM_eqF, nM_eqF', nbT0, nbT1, oI_s, oI_n, natF, natT, nltT, nltF, nleT, nleF, ↓reduceIte, lgc, not_true_eq_false, not_false_eq_true, or_false, false_or, or_true, true_or, and_true, true_and, and_false, false_and, ne_eq, eq_self, or_self, and_self, obs, ↓jn, ↓lt, ↓reduceIte, decide_true, decide_false, Bool.false_eq_true, Bool.and_true, Bool.and_false, Bool.true_and, Bool.false_and, Bool.or_false, Bool.false_or, Bool.or_true, Bool.true_or, Option.elim, Sum.elim_inr, A1, A2, A9, A10, q1, q2]
