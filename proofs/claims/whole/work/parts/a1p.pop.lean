/-! CHECKS as bits, counted -/
def popK (B : Nat) : Nat → Nat
  | 0 => 0
  | t + 1 => popK B t + (if B.testBit t = true then 1 else 0)
theorem popK_le {B : Nat} : ∀ t, popK B t ≤ t
  | 0 => Nat.le_refl _
  | t + 1 => by
    have := popK_le (B := B) t
    unfold popK
    split <;> omega
theorem popK_lo {h l : Nat} (hl : l < 256) : ∀ t, t ≤ 8 → popK (h * 256 + l) t = popK l t
  | 0, _ => rfl
  | t + 1, ht => by
    have hb : (h * 256 + l).testBit t = l.testBit t := by
      rw [show h * 256 + l = 2 ^ 8 * h + l by omega, Nat.testBit_two_pow_mul_add _ hl]
      exact if_pos (by omega)
    unfold popK
    rw [popK_lo hl t (by omega), hb]
theorem popK_hi {h l : Nat} (hl : l < 256) : ∀ t, popK (h * 256 + l) (8 + t) = popK h t + popK l 8
  | 0 => by
    rw [popK_lo hl 8 (Nat.le_refl _)]
    show _ = 0 + _
    omega
  | t + 1 => by
    show popK (h * 256 + l) (8 + t) + (if (h * 256 + l).testBit (8 + t) = true then 1 else 0) = (popK h t + (if h.testBit t = true then 1 else 0)) + popK l 8
    have hb : (h * 256 + l).testBit (8 + t) = h.testBit t := by
      rw [show h * 256 + l = 2 ^ 8 * h + l by omega, Nat.testBit_two_pow_mul_add _ hl]
      refine Eq.trans (if_neg (by omega)) ?_
      exact congrArg h.testBit (by omega)
    rw [popK_hi hl t, hb]
    omega
theorem nI_and {a b : Nat} : nI a &&& nI b = nI (a &&& b) := by
  apply Int32.toBitVec_inj.mp
  show BitVec.ofNat 32 a &&& BitVec.ofNat 32 b = BitVec.ofNat 32 (a &&& b)
  apply BitVec.eq_of_toNat_eq
  rw [BitVec.toNat_and, BitVec.toNat_ofNat, BitVec.toNat_ofNat, BitVec.toNat_ofNat, Nat.and_mod_two_pow]
theorem ush {x s : Nat} (hx : x < 2 ^ 32) (hs : s < 32) : ((nI x).toUInt32 >>> ((nI s).toUInt32 &&& Int32.toUInt32 31)).toInt32 = nI (x >>> s) := by
  apply Int32.toBitVec_inj.mp
  apply BitVec.eq_of_toNat_eq
  have hsh : ((nI s).toUInt32 &&& Int32.toUInt32 31) = UInt32.ofNat s := by
    have : ∀ q : Fin 32, ((nI q.1).toUInt32 &&& Int32.toUInt32 31) = UInt32.ofNat q.1 := by decide +kernel
    exact this ⟨s, hs⟩
  rw [hsh]
  show (((nI x).toUInt32 >>> UInt32.ofNat s).toBitVec).toNat = (BitVec.ofNat 32 (x >>> s)).toNat
  rw [UInt32.toBitVec_shiftRight, BitVec.toNat_ofNat, Nat.mod_eq_of_lt (Nat.lt_of_le_of_lt (Nat.shiftRight_le _ _) hx)]
  have h1 : ((UInt32.ofNat s).toBitVec % 32).toNat = s := by
    have : ∀ q : Fin 32, ((UInt32.ofNat q.1).toBitVec % 32).toNat = q.1 := by decide +kernel
    exact this ⟨s, hs⟩
  rw [BitVec.ushiftRight_eq', BitVec.toNat_ushiftRight, h1]
  show (BitVec.ofNat 32 x).toNat >>> s = _
  rw [BitVec.toNat_ofNat, Nat.mod_eq_of_lt hx]
def pcN (x : Nat) : Nat :=
  let v2 := x - ((x >>> 1) &&& 1431655765)
  let v5 := (v2 &&& 858993459) + ((v2 >>> 2) &&& 858993459)
  let v8 := (v5 + (v5 >>> 4)) &&& 252645135
  let v11 := v8 + (v8 >>> 8)
  let v14 := v11 + (v11 >>> 16)
  v14 &&& 63
theorem e482n {n x : Nat} (hx : x < 65536) : d_482 n (nI x) = some (nI (pcN x)) := by
  unfold d_482 pcN lt
  dsimp only
  have h1 : x >>> 1 &&& 1431655765 ≤ x := Nat.le_trans Nat.and_le_left (Nat.shiftRight_le _ _)
  rw [show (1 : Int32) = nI 1 from rfl, show (2 : Int32) = nI 2 from rfl, show (4 : Int32) = nI 4 from rfl, show (8 : Int32) = nI 8 from rfl, show (16 : Int32) = nI 16 from rfl, show (1431655765 : Int32) = nI 1431655765 from rfl, show (858993459 : Int32) = nI 858993459 from rfl, show (252645135 : Int32) = nI 252645135 from rfl, show (63 : Int32) = nI 63 from rfl]
  rw [ush (by omega) (by decide), nI_and, pk_sub h1]
  generalize hv : x - (x >>> 1 &&& 1431655765) = v2
  have h2 : v2 < 65536 := by omega
  rw [ush (by omega) (by decide), nI_and, nI_and, nI_add]
  generalize hv5 : (v2 &&& 858993459) + (v2 >>> 2 &&& 858993459) = v5
  have h5 : v5 < 2 ^ 18 := by
    have a1 : v2 &&& 858993459 ≤ v2 := Nat.and_le_left
    have a2 : v2 >>> 2 &&& 858993459 ≤ v2 := Nat.le_trans Nat.and_le_left (Nat.shiftRight_le _ _)
    omega
  rw [ush (by omega) (by decide), nI_add, nI_and]
  generalize hv8 : (v5 + v5 >>> 4) &&& 252645135 = v8
  have h8 : v8 < 2 ^ 20 := by
    have a1 : (v5 + v5 >>> 4) &&& 252645135 ≤ v5 + v5 >>> 4 := Nat.and_le_left
    have a2 : v5 >>> 4 ≤ v5 := Nat.shiftRight_le _ _
    omega
  rw [ush (by omega) (by decide), nI_add]
  generalize hv11 : v8 + v8 >>> 8 = v11
  have h11 : v11 < 2 ^ 22 := by
    have a2 : v8 >>> 8 ≤ v8 := Nat.shiftRight_le _ _
    omega
  rw [ush (by omega) (by decide), nI_add, nI_and]
theorem pc_all : ∀ h : Fin 256, ∀ l : Fin 256, pcN (h.1 * 256 + l.1) = popK h.1 8 + popK l.1 8 := by decide +kernel
theorem e482 {n B : Nat} (h : B < 65536) : d_482 n (nI B) = some (nI (popK B 16)) := by
  have h1 := pc_all ⟨B / 256, by omega⟩ ⟨B % 256, by omega⟩
  have h2 := popK_hi (h := B / 256) (l := B % 256) (by omega) 8
  rw [show B / 256 * 256 + B % 256 = B by omega] at h1 h2
  rw [e482n h, h1, h2]
