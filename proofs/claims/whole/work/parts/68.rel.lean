/-! A PROGRAM in the class and in the reference: pure words over the reference's state, and the relation -/
def ocn (m : cS) : Nat := ix (m.1 174 15)
def kcn (m : cS) : Nat := ix (m.1 174 24)
def mcn (m : cS) : Nat := ix (m.1 174 34)
def ccn (m : cS) : Nat := ix (m.1 174 37)
def eln (m : cS) (o : Nat) : Nat := ix (m.1 182 o)
def kn (m : cS) (k : Nat) : Nat := ix (m.1 190 k)
def kw (m : cS) (k : Nat) : Nat := ix (m.1 195 k)
def mz (m : cS) (r : Nat) : Nat := ix (m.1 222 r)
def prn (m : cS) (y : Nat) : Nat := ix (m.1 225 y)
def lcn (m : cS) (M : Nat) : Nat := ix (m.1 208 M)
def acn (m : cS) (M : Nat) : Nat := ix (m.1 210 M)
def opn (m : cS) (b : Nat) : Nat := ix (m.1 211 b)
def tdn (m : cS) (b : Nat) : Nat := ix (m.1 219 b)
/-- how many places under t -/
def cntN (p : Nat → Bool) : Nat → Nat
  | 0 => 0
  | t + 1 => cntN p t + (if p t = true then 1 else 0)
/-- ORDER, KIND, CLASS, ELEMENT, MEMBER of a NAME -/
def oOf (m : cS) (v : Int64) : Option Nat := ff (fun o => decide (m.2 181 o = v)) (ocn m)
def kOf (m : cS) (v : Int64) : Option Nat := ff (fun k => decide (m.2 189 k = v)) (kcn m)
def cOf (m : cS) (v : Int64) : Option Nat := ff (fun k => decide (m.2 200 k = v)) (ccn m)
def eOf (m : cS) (o : Nat) (v : Int64) : Option Nat := ff (fun e => decide (m.2 183 (12 * o + e) = v)) (eln m o)
def jOf (m : cS) (k : Nat) (v : Int64) : Option Nat := ff (fun j => decide (m.2 191 (4 * k + j) = v)) (kn m k)
/-- the key of a NAME: a KIND's number, 100 more than an ORDER's -/
def tOf (m : cS) (v : Int64) : Option Nat := match oOf m v with
  | some o => some (100 + o)
  | none => kOf m v
def isKy (m : cS) (t : Nat) : Prop := t < kcn m ∨ (100 ≤ t ∧ t < 100 + ocn m)
def kyN (m : cS) (t : Nat) : Int64 := if t < 100 then m.2 189 t else m.2 181 (t - 100)
def kyS (t : Nat) : Nat := if t < 100 then t else t - 88
/-- PAIRS; ELEMENT and MEMBERS of a MARK -/
def pOf (m : cS) (y : Nat) (v : Int64) : Option Nat := ff (fun q => decide (m.2 226 (y * 4 + q) = v)) (prn m y)
def elI (m : cS) (y o : Nat) : Option Nat := match pOf m y 24948 with
  | some q => if m.1 227 (y * 4 + q) = nI 3 then eOf m o (m.2 228 (y * 4 + q)) else none
  | none => none
def txt (m : cS) (k j : Nat) : Int32 := if m.1 192 (4 * k + j) = nI 0 then nI 1 else nI 2
def mbS (m : cS) (y k j : Nat) : Int32 := match pOf m y (m.2 191 (4 * k + j)) with
  | some q => if m.1 227 (y * 4 + q) = txt m k j then txt m k j else -2
  | none => if m.1 193 (4 * k + j) = nI 0 then -3 else txt m k j
def mbV (m : cS) (y k j : Nat) : Int64 := match pOf m y (m.2 191 (4 * k + j)) with
  | some q => m.2 228 (y * 4 + q)
  | none => m.2 194 (4 * k + j)
/-- the sort of a PLACE; which MARKS COUNT -/
def si (p : Nat) : Nat := if p % 100 = 0 then 0 else if p % 100 < 20 then 1 else if p % 10 = 0 then 2 else 3
def smn (m : cS) (p : Nat) (v : Int64) : Nat := cntN (fun j => decide (m.2 223 (p * 20 + j) = v)) (mz m p)
def cst (m : cS) (t s : Nat) : Bool := if t < 100 then (kw m t).testBit s else decide (s ≠ 0)
def mny (m : cS) (t : Nat) : Bool := decide (t < 100) && decide (m.1 197 t = nI 1)
def dcn (m : cS) (p i : Nat) : Bool := match tOf m (m.2 223 (p * 20 + i)) with
  | some t => cst m t (si p) && (mny m t || decide (smn m p (m.2 223 (p * 20 + i)) = 1))
  | none => false
/-- what MARKS GIVE -/
def gv1 (m : cS) (v : Int64) (T : Nat → Option Nat) (k : Nat) : Option Nat :=
  match ff (fun i => decide (m.2 223 ((1200 + k) * 20 + i) = v)) (mz m (1200 + k)) with
  | some i => some ((1200 + k) * 20 + i)
  | none => (ff (fun i => ((kOf m (m.2 223 ((1200 + k) * 20 + i))).bind T).isSome) (mz m (1200 + k))).bind (fun i => (kOf m (m.2 223 ((1200 + k) * 20 + i))).bind T)
def gvt (m : cS) (v : Int64) : Nat → Nat → Option Nat
  | 0 => fun _ => none
  | K + 1 => fun k => if k = K then gv1 m v (gvt m v K) K else gvt m v K k
def gv (m : cS) (v : Int64) (k : Nat) : Option Nat := gvt m v (kcn m) k
def gb (m : cS) (p i : Nat) (v : Int64) : Option Nat := if m.1 224 (p * 20 + i) = nI 0 ∧ dcn m p i = true then (kOf m (m.2 223 (p * 20 + i))).bind (gv m v) else none
def gAt (m : cS) (p : Nat) (v : Int64) : Option Nat := (ff (fun i => (gb m p i v).isSome) (mz m p)).bind (fun i => gb m p i v)
/-- OWN MARKS of a NAME that COUNT -/
def owB (m : cS) (p : Nat) (v : Int64) (i : Nat) : Bool := decide (m.2 223 (p * 20 + i) = v) && dcn m p i && decide (m.1 224 (p * 20 + i) = nI 0)
def noB (m : cS) (p : Nat) (v : Int64) (i : Nat) : Bool := decide (m.2 223 (p * 20 + i) = v) && dcn m p i && decide (m.1 224 (p * 20 + i) = nI 1)
def own (m : cS) (p : Nat) (v : Int64) : Nat := cntN (owB m p v) (mz m p)
def nos (m : cS) (p : Nat) (v : Int64) : Bool := decide (cntN (noB m p v) (mz m p) ≠ 0)
/-- PARENTS; the nearest METHOD, FIELD of a NAME; the PLACE ABOVE -/
def par (m : cS) (k : Nat) : Option Nat := if m.1 201 k < 0 then none else some (ix (m.1 201 k))
def upO {α : Type} (m : cS) (g : Nat → Option α) : Nat → Nat → Option α
  | 0, _ => none
  | f + 1, k => match g k with
    | some r => some r
    | none => (par m k).bind (upO m g f)
def nrM (m : cS) (v : Int64) : Nat → Nat → Option (Nat × Nat) := upO m (fun k => (ff (fun j => decide (m.2 206 (8 * k + j) = v)) (qM m k)).map (fun j => (k, j)))
def nrF (m : cS) (v : Int64) : Nat → Nat → Option (Nat × Nat) := upO m (fun k => (ff (fun j => decide (m.2 204 (8 * k + j) = v)) (fM m k)).map (fun j => (k, j)))
def mAt (p : Nat) : Nat := 8 * (p / 100) + (p % 100 - 20) / 10
def abv (m : cS) (p : Nat) : Option Nat := (par m (p / 100)).bind (fun d =>
  if p % 100 = 0 then some (100 * d) else if p % 100 < 20 then none else
  (nrM m (m.2 206 (mAt p)) 12 d).bind (fun q => if pM m (8 * q.1 + q.2) = pM m (mAt p) then some (100 * q.1 + 20 + 10 * q.2 + p % 10) else none))
/-- EFFECTIVE MARKS: how many, the PLACE, steps, the GIVEN one -/
def eff (m : cS) (t : Nat) : Nat → Nat → Nat → Nat × Nat × Nat × Option Nat
  | 0, p, s => (0, p, s, none)
  | f + 1, p, s => if 0 < own m p (kyN m t) then (own m p (kyN m t), p, s, none) else if nos m p (kyN m t) then (0, p, s, none) else
    match gAt m p (kyN m t) with
    | some g => (1, p, s, some g)
    | none => if t < 100 ∧ m.1 196 t = nI 0 then (0, p, s, none) else
      match abv m p with
      | some q => eff m t f q (s + 1)
      | none => (0, p, s, none)
/-- the n-th place where p holds -/
def nth (p : Nat → Bool) (n : Nat) : Nat → Nat → Option Nat
  | 0, _ => none
  | t + 1, k => if p k = true then (if cntN p k = n then some k else nth p n t (k + 1)) else nth p n t (k + 1)
/-- the MARK i among them -/
def efm (m : cS) (t : Nat) (e : Nat × Nat × Nat × Option Nat) (i : Nat) : Option Nat := match e.2.2.2 with
  | some g => some g
  | none => (nth (owB m e.2.1 (kyN m t)) i (mz m e.2.1) 0).map (fun j => e.2.1 * 20 + j)
/-- THE MARK that is told -/
def tld (m : cS) (p o : Nat) : Option Nat := if (eff m (100 + o) 13 p 0).1 = 0 then none else
  match efm m (100 + o) (eff m (100 + o) 13 p 0) 0 with
  | some y => some ((elI m y o).getD (ix (m.1 187 o)))
  | none => none
/-! MARKS -/
def ch (c : cS) (r : Nat) : Nat → Int32
  | 0 => c.1 142 r
  | k + 1 => c.1 138 (ix (ch c r k))
def mi (c : cS) (r i : Nat) : Nat := ix (ch c r i)
/-- MARK x of the class is MARK y of the reference -/
def MKR (c m : cS) (x y : Nat) : Prop :=
  x < 4096 ∧ c.2 134 x = m.2 223 y ∧ c.1 135 x = oI (tOf m (m.2 223 y)) ∧ nb (m.1 224 y) ∧ prn m y ≤ 4 ∧ m.1 225 y = nI (prn m y) ∧ (m.1 224 y = nI 1 → prn m y = 0) ∧ c.1 136 x = (if m.1 224 y = nI 0 then nI (prn m y) else nM) ∧
  ∀ q, q < prn m y → c.2 139 (x * 4 + q) = m.2 226 (y * 4 + q) ∧ c.1 140 (x * 4 + q) = m.1 227 (y * 4 + q) ∧ (∃ s, 1 ≤ s ∧ s ≤ 3 ∧ m.1 227 (y * 4 + q) = nI s) ∧ c.2 141 (x * 4 + q) = m.2 228 (y * 4 + q) ∧ (m.1 227 (y * 4 + q) = nI 1 → iv (m.2 228 (y * 4 + q)))
def RW (c m : cS) (r : Nat) : Prop := mz m r ≤ 20 ∧ m.1 222 r = nI (mz m r) ∧ c.1 144 r = nI (mz m r) ∧ ∀ i, i < mz m r → ch c r i = nI (mi c r i) ∧ MKR c m (mi c r i) (r * 20 + i)
/-- a row of a PLACE; a row of a KIND or a MAKER -/
def RP (c m : cS) (p : Nat) : Prop := RW c m p ∧ ∀ i, i < mz m p → c.1 137 (mi c p i) = if dcn m p i = true then nI 1 else nI 0
def RQ (c m : cS) (r : Nat) : Prop := RW c m r ∧ ∀ i, i < mz m r → c.1 137 (mi c r i) = nI 1 ∧ m.1 224 (r * 20 + i) = nI 0 ∧ ((∃ o e, oOf m (m.2 223 (r * 20 + i)) = some o ∧ elI m (r * 20 + i) o = some e) ∨ (∃ k, oOf m (m.2 223 (r * 20 + i)) = none ∧ kOf m (m.2 223 (r * 20 + i)) = some k ∧ ∀ j, j < kn m k → mbS m (r * 20 + i) k j = txt m k j))
/-! KINDS -/
def RK (c m : cS) (k : Nat) : Prop :=
  c.2 (kA k) 0 = m.2 189 k ∧ kn m k ≤ 4 ∧ m.1 190 k = nI (kn m k) ∧ c.1 (kA k) 1 = nI (kn m k) ∧
  (∀ j, j < kn m k → c.2 (kA k + 1) j = m.2 191 (4 * k + j) ∧ nb (m.1 192 (4 * k + j)) ∧ c.1 (kA k + 2) j = txt m k j ∧ nb (m.1 193 (4 * k + j)) ∧ c.1 (kA k + 3) j = m.1 193 (4 * k + j) ∧ (m.1 193 (4 * k + j) = nI 1 → c.2 (kA k + 4) j = m.2 194 (4 * k + j) ∧ (m.1 192 (4 * k + j) = nI 0 → iv (m.2 194 (4 * k + j))))) ∧
  kw m k < 16 ∧ m.1 195 k = nI (kw m k) ∧ c.1 (kA k) 6 = nI (kw m k) ∧ nb (m.1 196 k) ∧ c.1 (kA k) 7 = m.1 196 k ∧ nb (m.1 197 k) ∧ c.1 (kA k) 8 = m.1 197 k
def RG (c m : cS) (k t : Nat) : Prop := match gv m (kyN m t) k with
  | none => c.1 (kA k + 5) (kyS t) = nM
  | some y => ∃ d i, d < kcn m ∧ i < mz m (1200 + d) ∧ y = (1200 + d) * 20 + i ∧ c.1 (kA k + 5) (kyS t) = nI (mi c (1200 + d) i)
/-- ORDERS and KINDS have names of their own -/
def NMS (m : cS) : Prop := (∀ o, o < ocn m → oOf m (m.2 181 o) = some o ∧ m.2 181 o ≠ 0) ∧ (∀ k, k < kcn m → oOf m (m.2 189 k) = none ∧ kOf m (m.2 189 k) = some k ∧ m.2 189 k ≠ 0)
def KKS (c m : cS) : Prop := kcn m ≤ 12 ∧ c.1 7 4 = nI (kcn m) ∧ m.1 174 24 = nI (kcn m) ∧ (∀ k, k < kcn m → RK c m k) ∧ NMS m ∧
  (∀ k, k < kcn m → RQ c m (1200 + k)) ∧ (∀ k i d, k < kcn m → i < mz m (1200 + k) → kOf m (m.2 223 ((1200 + k) * 20 + i)) = some d → d < k) ∧ (∀ k t, k < kcn m → isKy m t → RG c m k t)
def OOS (c m : cS) : Prop := PO (ocn m) c m
def MMS (c m : cS) : Prop := mcn m ≤ 6 ∧ c.1 7 7 = nI (mcn m) ∧ m.1 174 34 = nI (mcn m) ∧ ∀ k, k < mcn m → c.2 10 k = m.2 198 k ∧ (∃ d, d < kcn m ∧ c.1 11 k = nI d ∧ m.1 199 k = nI d) ∧ RQ c m (1212 + k)
/-- PLACES -/
def isP (m : cS) (p s : Nat) : Prop := srt (ccn m) m p = some s
def CCS (c m : cS) : Prop := PC (ccn m) c m ∧ 1 ≤ ccn m ∧
  (∀ k, k < ccn m → c.2 12 k = m.2 200 k ∧ c.1 13 k = m.1 201 k ∧ (m.1 201 k = nM ∨ ∃ d, d < k ∧ m.1 201 k = nI d)) ∧
  (∀ k j, k < ccn m → j < fM m k → c.2 15 (k * 8 + j) = m.2 204 (8 * k + j) ∧ c.1 16 (k * 8 + j) = m.1 205 (8 * k + j)) ∧
  (∀ k j, k < ccn m → j < qM m k → c.2 115 (k * 8 + j) = m.2 206 (8 * k + j))
def PPS (c m : cS) : Prop := ∀ p s, isP m p s → RP c m p
/-! u holds the program of m -/
def PA (a : Nat) : Bool := (Nat.ble 181 a && Nat.ble a 221) || Nat.beq a 229 || Nat.beq a 230
def PF (i : Nat) : Bool := Nat.beq i 14 || Nat.beq i 15 || Nat.beq i 24 || Nat.beq i 34 || Nat.beq i 37
def AG (m u : cS) : Prop := (∀ a i, PA a = true → u.1 a i = m.1 a i) ∧ (∀ a i, PA a = true → u.2 a i = m.2 a i) ∧ (∀ i, PF i = true → u.1 174 i = m.1 174 i) ∧ (∀ i, i < 1218 → u.1 222 i = m.1 222 i) ∧
  (∀ i, i < 24360 → u.2 223 i = m.2 223 i) ∧ (∀ i, i < 24360 → u.1 224 i = m.1 224 i) ∧ (∀ i, i < 24360 → u.1 225 i = m.1 225 i) ∧ (∀ i, i < 97440 → u.2 226 i = m.2 226 i) ∧ (∀ i, i < 97440 → u.1 227 i = m.1 227 i) ∧ ∀ i, i < 97440 → u.2 228 i = m.2 228 i
/-- places that are none of the program's -/
def nP (r : Nat → Nat → Bool) : Prop := (∀ a i, PA a = true → r a i = false) ∧ (∀ i, PF i = true → r 174 i = false) ∧ (∀ i, i < 1218 → r 222 i = false) ∧ (∀ a i, 223 ≤ a → a ≤ 225 → i < 24360 → r a i = false) ∧ ∀ a i, 226 ≤ a → a ≤ 228 → i < 97440 → r a i = false
theorem AG_rfl {m : cS} : AG m m := ⟨fun _ _ _ => rfl, fun _ _ _ => rfl, fun _ _ => rfl, fun _ _ => rfl, fun _ _ => rfl, fun _ _ => rfl, fun _ _ => rfl, fun _ _ => rfl, fun _ _ => rfl, fun _ _ => rfl⟩
theorem AG_sx {m u v : cS} {r : Nat → Nat → Bool} (h : AG m u) (hs : sx r u v) (hr : nP r) : AG m v := by
  obtain ⟨h1, h2, h3, h4, h5, h6, h7, h8, h9, h10⟩ := h
  obtain ⟨r1, r2, r3, r4, r5⟩ := hr
  exact ⟨fun a i e => (hs.1 a i (r1 a i e)).trans (h1 a i e), fun a i e => (hs.2 a i (r1 a i e)).trans (h2 a i e), fun i e => (hs.1 _ i (r2 i e)).trans (h3 i e), fun i e => (hs.1 _ i (r3 i e)).trans (h4 i e),
    fun i e => (hs.2 _ i (r4 223 i (by omega) (by omega) e)).trans (h5 i e), fun i e => (hs.1 _ i (r4 224 i (by omega) (by omega) e)).trans (h6 i e), fun i e => (hs.1 _ i (r4 225 i (by omega) (by omega) e)).trans (h7 i e),
    fun i e => (hs.2 _ i (r5 226 i (by omega) (by omega) e)).trans (h8 i e), fun i e => (hs.1 _ i (r5 227 i (by omega) (by omega) e)).trans (h9 i e), fun i e => (hs.2 _ i (r5 228 i (by omega) (by omega) e)).trans (h10 i e)⟩
