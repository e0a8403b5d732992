/-! READING: the LEXEMES of both -/
section TOK
variable {n p k i j L N : Nat} {b : Nat → Nat} {c d u w : cS} {K P : Nat → Nat} {V : Nat → Int64}
/-- letters one behind another as a number -/
def pkn (b : Nat → Nat) (p : Nat) : Nat → Nat
  | 0 => 0
  | k + 1 => pkn b p k * 256 + b (p + k)
theorem or8 {v : Int64} {x : Nat} (hv : v.toBitVec.toNat < 2 ^ 56) (hx : x < 256) : ((v <<< ((8 : Int32).toInt64 &&& 63)) ||| (nI x).toInt64).toBitVec.toNat = v.toBitVec.toNat * 256 + x := by
  have h1 : ∀ x : Fin 256, (nI x.1).toInt64.toBitVec.toNat = x.1 := by decide +kernel
  have h2 : (((8 : Int32).toInt64 &&& 63).toBitVec.smod 64).toNat = 8 := by decide
  rw [Int64.toBitVec_or, BitVec.toNat_or, h1 ⟨x, hx⟩, Int64.toBitVec_shiftLeft, BitVec.shiftLeft_eq', h2, BitVec.toNat_shiftLeft, Nat.mod_eq_of_lt (by rw [Nat.shiftLeft_eq]; omega)]
  show v.toBitVec.toNat <<< 8 ||| x = _
  rw [← Nat.shiftLeft_add_eq_or_of_lt (show x < 2 ^ 8 by omega), Nat.shiftLeft_eq]
theorem pkB_n (h : ∀ j, j < k → b (p + j) < 256) (hk : k ≤ 8) : (pkB b p k).toBitVec.toNat = pkn b p k ∧ pkn b p k < 256 ^ k := by
  induction k with
  | zero => exact ⟨rfl, show (0 : Nat) < 256 ^ 0 by decide⟩
  | succ k ih =>
    obtain ⟨h1, h2⟩ := ih (fun j hj => h j (by omega)) (by omega)
    have h3 := h k (by omega)
    have h4 : 256 ^ k ≤ 256 ^ 7 := Nat.pow_le_pow_right (by decide) (by omega)
    have h5 : (256 : Nat) ^ 7 = 2 ^ 56 := by decide
    refine ⟨?_, ?_⟩
    · show ((pkB b p k <<< ((8 : Int32).toInt64 &&& 63)) ||| (nI (b (p + k))).toInt64).toBitVec.toNat = pkn b p k * 256 + b (p + k)
      rw [or8 (by rw [h1]; omega) h3, h1]
    · show pkn b p k * 256 + b (p + k) < _
      rw [Nat.pow_succ]
      omega
theorem pkn_ge (h : ∀ j, j < k → 1 ≤ b (p + j)) (hk : 1 ≤ k) : 256 ^ (k - 1) ≤ pkn b p k := by
  induction k with
  | zero => omega
  | succ k ih =>
    show _ ≤ pkn b p k * 256 + b (p + k)
    by_cases e : k = 0
    · subst e
      have := h 0 (by omega)
      show 1 ≤ 0 * 256 + b (p + 0)
      omega
    · have h1 := ih (fun j hj => h j (by omega)) (by omega)
      rw [show k + 1 - 1 = (k - 1) + 1 by omega, Nat.pow_succ]
      omega
theorem wrd_n (w : Nat) (hw : w < 31) : 1 ≤ (sB (2 + w)).length ∧ (sB (2 + w)).length ≤ 8 ∧ 256 ^ ((sB (2 + w)).length - 1) ≤ (pkN (2 + w) (sB (2 + w)).length).toBitVec.toNat ∧ (pkN (2 + w) (sB (2 + w)).length).toBitVec.toNat < 256 ^ (sB (2 + w)).length := by
  have h : ∀ w : Fin 31, 1 ≤ (sB (2 + w.1)).length ∧ (sB (2 + w.1)).length ≤ 8 ∧ 256 ^ ((sB (2 + w.1)).length - 1) ≤ (pkN (2 + w.1) (sB (2 + w.1)).length).toBitVec.toNat ∧ (pkN (2 + w.1) (sB (2 + w.1)).length).toBitVec.toNat < 256 ^ (sB (2 + w.1)).length := by decide +kernel
  exact h ⟨w, hw⟩
theorem pow_bt {a e x : Nat} (h1 : 256 ^ (a - 1) ≤ x) (h2 : x < 256 ^ a) (h3 : 256 ^ (e - 1) ≤ x) (h4 : x < 256 ^ e) : a = e := by
  have h5 : a - 1 < e := Nat.lt_of_not_le (fun z => by
    have := Nat.pow_le_pow_right (show 0 < 256 by decide) z
    omega)
  have h6 : e - 1 < a := Nat.lt_of_not_le (fun z => by
    have := Nat.pow_le_pow_right (show 0 < 256 by decide) z
    omega)
  by_cases ha : a = 0
  · subst ha
    have : e - 1 = 0 := by omega
    rw [this] at h3
    simp at h2 h3
    omega
  · by_cases he : e = 0
    · subst he
      have : a - 1 = 0 := by omega
      rw [this] at h1
      simp at h4 h1
      omega
    · omega
theorem lxLD_1 {v : Nat} (h : lxLD v = true) : 1 ≤ v := by
  unfold lxLD lxL lxD at h
  simp at h
  omega
/-- how long a LEXEME is at least -/
def tln (k : Nat) : Nat := if 200 ≤ k then (sB (2 + (k - 200))).length else 1
def TKO (c u : cS) (K : Nat → Nat) (V : Nat → Int64) (N j : Nat) : Prop := (K j = 0 ∧ j = N ∧ u.1 178 j = nI 5) ∨ (K j = 1 ∧ u.1 178 j = nI 0 ∧ c.2 5 j = V j ∧ u.2 180 j = V j ∧ V j ≠ 0) ∨ (K j = 2 ∧ u.1 178 j = nI 1 ∧ c.2 5 j = V j ∧ u.2 180 j = V j ∧ ∃ x, x < 1000000000 ∧ V j = (nI x).toInt64) ∨ (K j = 3 ∧ u.1 178 j = nI 2 ∧ c.2 5 j = V j ∧ u.2 180 j = V j) ∨
  (10 ≤ K j ∧ K j < 128 ∧ u.1 178 j = nI 3 ∧ u.2 180 j = (nI (K j)).toInt64) ∨ (200 ≤ K j ∧ K j < 231 ∧ u.1 178 j = nI 4 ∧ u.2 180 j = (nI (K j - 200)).toInt64)
def TKR (c u : cS) (K P : Nat → Nat) (V : Nat → Int64) (N : Nat) : Prop :=
  N ≤ 4000 ∧ K N = 0 ∧ (∀ j, j ≤ N → c.1 3 j = nI (K j) ∧ c.1 4 j = nI (P j) ∧ u.1 179 j = nI (P j) ∧ P j ≤ 4000 ∧ TKO c u K V N j) ∧ ∀ j, j < N → P j + tln (K j) ≤ P (j + 1)
theorem TKR_sx {c' u' : cS} {r q : Nat → Nat → Bool} (h : TKR c u K P V N) (hc : sx r c c') (hu : sx q u u') (h1 : ∀ A j, 3 ≤ A → A ≤ 5 → r A j = false) (h2 : ∀ A j, 178 ≤ A → A ≤ 180 → q A j = false) : TKR c' u' K P V N := by
  obtain ⟨a1, a2, a3, a4⟩ := h
  refine ⟨a1, a2, fun j hj => ?_, a4⟩
  unfold TKO
  rw [hc.1 3 j (h1 3 j (by omega) (by omega)), hc.1 4 j (h1 4 j (by omega) (by omega)), hu.1 179 j (h2 179 j (by omega) (by omega)), hu.1 178 j (h2 178 j (by omega) (by omega)), hc.2 5 j (h1 5 j (by omega) (by omega)), hu.2 180 j (h2 180 j (by omega) (by omega))]
  exact a3 j hj
theorem nm10 {x : Nat} (hx : x < 100000000) {v : Nat} (h1 : 48 ≤ v) (h2 : v ≤ 57) : ((nI x).toInt64 * 10 + (nI v).toInt64) - 48 = (nI (x * 10 + v - 48)).toInt64 := by
  have e : ∀ {y : Nat}, y < 2147483648 → (nI y).toInt64 = Int64.ofNat y := fun {y} hy => by
    apply Int64.toInt_inj.mp
    rw [Int32.toInt_toInt64, nI_toInt hy, Int64.toInt_ofNat_of_lt (by omega)]
  rw [e (by omega), e (by omega), e (by omega)]
  apply Int64.toBitVec_inj.mp
  apply BitVec.eq_of_toNat_eq
  simp only [Int64.toBitVec_sub, Int64.toBitVec_add, Int64.toBitVec_mul, Int64.toBitVec_ofNat']
  rw [show (10 : Int64).toBitVec = BitVec.ofNat 64 10 from rfl, show (48 : Int64).toBitVec = BitVec.ofNat 64 48 from rfl]
  simp only [BitVec.toNat_sub, BitVec.toNat_add, BitVec.toNat_mul, BitVec.toNat_ofNat]
  omega
theorem nmB_n (h : ∀ j, j < k → lxD (b (p + j)) = true) (hk : k ≤ 9) : ∃ x, x < 10 ^ k ∧ nmB b p k = (nI x).toInt64 := by
  induction k with
  | zero => exact ⟨0, by decide, rfl⟩
  | succ k ih =>
    obtain ⟨x, h1, h2⟩ := ih (fun j hj => h j (by omega)) (by omega)
    have h3 := h k (by omega)
    have h4 : 48 ≤ b (p + k) ∧ b (p + k) ≤ 57 := by
      unfold lxD at h3
      simp at h3
      exact h3
    have h5 : 10 ^ k ≤ 10 ^ 8 := Nat.pow_le_pow_right (by decide) (by omega)
    have h6 : (10 : Nat) ^ 8 = 100000000 := by decide
    refine ⟨x * 10 + b (p + k) - 48, ?_, ?_⟩
    · rw [Nat.pow_succ]
      omega
    · show (nmB b p k * 10 + (nI (b (p + k))).toInt64) - 48 = _
      rw [h2]
      exact nm10 (by omega) h4.1 h4.2
end TOK
