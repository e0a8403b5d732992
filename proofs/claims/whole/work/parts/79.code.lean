/-! METHODS and ACTS -/
def xN (m : cS) (b : Nat) : Nat := ix (m.1 214 b)
def yN (m : cS) (b : Nat) : Nat := ix (m.1 215 b)
def dpn (m : cS) (b : Nat) : Nat := ix (m.1 230 b)
def TK (w : Nat) : Nat := [0, 0, 0, 1, 0, 1, 0, 1, 2, 2, 2, 1, 1, 0, 1, 1, 1].getD (w - 14) 0
def GT (w : Nat) : Nat := [1, 1, 1, 0, 1, 0, 1, 0, 1, 1, 1, 2, 0, 0, 0, 1, 1].getD (w - 14) 0
def tkn (m : cS) (b : Nat) : Nat := if opn m b = 20 then pM m (8 * xN m b + yN m b) else TK (opn m b)
def gvn (m : cS) (b : Nat) : Nat := GT (opn m b)
def fa (c : cS) (M : Nat) : Nat := ix (c.1 119 M)
def isMt (m : cS) (M : Nat) : Prop := M / 8 < ccn m ∧ M % 8 < qM m (M / 8)
def MTR (c m : cS) (M : Nat) : Prop := (1 ≤ acn m M ∧ acn m M ≤ 40) ∧ m.1 210 M = nI (acn m M) ∧ c.1 120 M = nI (acn m M) ∧ (lcn m M ≤ 8 ∧ pM m M ≤ lcn m M) ∧ m.1 208 M = nI (lcn m M) ∧ c.1 117 M = nI (lcn m M) ∧
  (∀ t, t < lcn m M → c.2 118 (M * 8 + t) = m.2 209 (8 * M + t)) ∧ c.1 119 M = nI (fa c M) ∧ fa c M + acn m M ≤ 1024
/-- MARKS told in an ACT -/
def toR (m : cS) (b k : Nat) : Nat := ix (m.1 220 (4 * b + k))
def teR (m : cS) (b k : Nat) : Nat := ix (m.1 221 (4 * b + k))
def tlo (m : cS) (b o : Nat) : Nat → Nat
  | 0 => ix (m.1 188 o)
  | k + 1 => if toR m b k = o then teR m b k else tlo m b o k
def TLR (c m : cS) (a b : Nat) : Prop := tdn m b ≤ 4 ∧ m.1 219 b = nI (tdn m b) ∧ c.1 144 (1218 + a) = nI (tdn m b) ∧
  (∀ k, k < tdn m b → toR m b k < ocn m ∧ teR m b k < eln m (toR m b k) ∧ m.1 220 (4 * b + k) = nI (toR m b k) ∧ m.1 221 (4 * b + k) = nI (teR m b k) ∧
    ch c (1218 + a) k = nI (mi c (1218 + a) k) ∧ mi c (1218 + a) k < 4096 ∧ c.2 134 (mi c (1218 + a) k) = m.2 181 (toR m b k) ∧ c.1 135 (mi c (1218 + a) k) = nI (100 + toR m b k) ∧ c.1 136 (mi c (1218 + a) k) = nI 1 ∧ c.1 137 (mi c (1218 + a) k) = nI 1 ∧
    c.2 139 (mi c (1218 + a) k * 4) = 24948 ∧ c.1 140 (mi c (1218 + a) k * 4) = nI 3 ∧ c.2 141 (mi c (1218 + a) k * 4) = m.2 183 (12 * toR m b k + teR m b k)) ∧
  ∀ o, o < ocn m → nbl (c.1 123 a).toInt64 o = tlo m b o (tdn m b)
/-- the parts of an ACT -/
def OPR (c m : cS) (M a b : Nat) : Prop :=
  (opn m b = 14 → c.1 122 a = m.1 214 b) ∧ (opn m b ≤ 15 → TLR c m a b) ∧
  (opn m b = 16 ∨ opn m b = 17 → xN m b < lcn m M ∧ m.1 214 b = nI (xN m b) ∧ c.1 122 a = nI (xN m b)) ∧
  (opn m b = 18 ∨ opn m b = 19 → xN m b < ccn m ∧ yN m b < fM m (xN m b) ∧ m.1 214 b = nI (xN m b) ∧ m.1 215 b = nI (yN m b) ∧ c.1 123 a = nI (100 * xN m b + 1 + yN m b) ∧ (∃ d, d < ccn m ∧ m.1 229 b = nI d ∧ c.2 128 a = m.2 200 d) ∧ c.2 129 a = m.2 204 (8 * xN m b + yN m b)) ∧
  (opn m b = 20 → xN m b < ccn m ∧ yN m b < qM m (xN m b) ∧ m.1 214 b = nI (xN m b) ∧ m.1 215 b = nI (yN m b) ∧ c.1 123 a = nI (100 * xN m b + 20 + 10 * yN m b) ∧ c.1 122 a = nI (pM m (8 * xN m b + yN m b)) ∧ (∃ d, d < ccn m ∧ m.1 229 b = nI d ∧ c.2 128 a = m.2 200 d) ∧ c.2 129 a = m.2 206 (8 * xN m b + yN m b)) ∧
  (opn m b = 29 ∨ opn m b = 30 → xN m b < ocn m ∧ yN m b < eln m (xN m b) ∧ m.1 214 b = nI (xN m b) ∧ m.1 215 b = nI (yN m b) ∧ c.1 123 a = nI (xN m b) ∧ c.1 122 a = nI (yN m b)) ∧
  (opn m b = 27 ∨ opn m b = 28 ∨ opn m b = 29 → ∃ t, t < acn m M ∧ m.1 216 b = nI t ∧ c.2 128 a = m.2 212 (40 * M + t)) ∧ (opn m b ≠ 27 ∧ opn m b ≠ 28 ∧ opn m b ≠ 29 → m.1 216 b = nM)
/-- DEPTHS -/
def goesN (m : cS) (b : Nat) : Prop := opn m b ≠ 21 ∧ opn m b ≠ 27
def DPR (m : cS) (M i : Nat) : Prop := m.1 230 (40 * M + i) = nM ∨ (m.1 230 (40 * M + i) = nI (dpn m (40 * M + i)) ∧ tkn m (40 * M + i) ≤ dpn m (40 * M + i) ∧ dpn m (40 * M + i) ≤ 8 ∧ dpn m (40 * M + i) - tkn m (40 * M + i) + gvn m (40 * M + i) ≤ 8 ∧
  (goesN m (40 * M + i) → i + 1 < acn m M ∧ m.1 230 (40 * M + (i + 1)) = nI (dpn m (40 * M + i) - tkn m (40 * M + i) + gvn m (40 * M + i))) ∧
  (∀ t, m.1 216 (40 * M + i) = nI t → t < acn m M → m.1 230 (40 * M + t) = nI (dpn m (40 * M + i) - tkn m (40 * M + i) + gvn m (40 * M + i))))
def ACR (c m : cS) (M i : Nat) : Prop := (14 ≤ opn m (40 * M + i) ∧ opn m (40 * M + i) ≤ 30) ∧ m.1 211 (40 * M + i) = nI (opn m (40 * M + i)) ∧ c.1 121 (fa c M + i) = nI (200 + opn m (40 * M + i)) ∧ c.2 127 (fa c M + i) = m.2 212 (40 * M + i) ∧
  c.1 124 (fa c M + i) = m.1 216 (40 * M + i) ∧ c.1 125 (fa c M + i) = m.1 230 (40 * M + i) ∧ OPR c m M (fa c M + i) (40 * M + i) ∧ DPR m M i
def MTS (c m : cS) : Prop := (∃ tot, tot ≤ 1024 ∧ c.1 114 7 = nI tot ∧ ∀ M, isMt m M → fa c M + acn m M ≤ tot) ∧ (∀ M, isMt m M → MTR c m M ∧ m.1 230 (40 * M) = nI 0 ∧ ∀ i, i < acn m M → ACR c m M i) ∧ (∀ M N, isMt m M → isMt m N → M < N → fa c M + acn m M ≤ fa c N)
def PG (c m : cS) : Prop := EC c m ∧ MMS c m ∧ MTS c m
theorem isMt_lt {c m : cS} {M : Nat} (hC : CCS c m) (h : isMt m M) : M < 96 := by
  have := (CCS_p hC).1
  have := h.1
  omega
theorem isMt_at {c m : cS} {p s : Nat} (hC : CCS c m) (h : isP m p s) (h1 : 20 ≤ p % 100) : isMt m (mAt p) := by
  have h2 := isP_c h
  have h3 := (isP_m h h1).1
  have h4 := (hC.1.2.2.2.2.1 _ h2).1
  unfold isMt mAt
  rw [show (8 * (p / 100) + (p % 100 - 20) / 10) / 8 = p / 100 by omega, show (8 * (p / 100) + (p % 100 - 20) / 10) % 8 = (p % 100 - 20) / 10 by omega]
  exact ⟨h2, h3⟩
section CAC
variable {c d m : cS}
theorem fa_CA (hc : CA c d) {M : Nat} : fa d M = fa c M := by
  unfold fa
  rw [CA_l hc (a := 119) (by omega) (by omega) (by omega)]
theorem MTR_CA (hc : CA c d) {M : Nat} (h : MTR c m M) : MTR d m M := by
  unfold MTR at h ⊢
  rw [fa_CA hc, CA_l hc (a := 120) (by omega) (by omega) (by omega), CA_l hc (a := 117) (by omega) (by omega) (by omega), CA_r hc (a := 118) (by omega) (by omega) (by omega), CA_l hc (a := 119) (by omega) (by omega) (by omega)]
  exact h
theorem TLR_CA (hc : CA c d) {a b : Nat} (h : TLR c m a b) : TLR d m a b := by
  obtain ⟨h1, h2, h3, h4, h5⟩ := h
  refine ⟨h1, h2, ?_, fun k hk => ?_, ?_⟩
  · rw [CA_l hc (a := 144) (by omega) (by omega) (by omega)]
    exact h3
  · rw [ch_CA hc, mi_CA hc, CA_r hc (a := 134) (by omega) (by omega) (by omega), CA_l hc (a := 135) (by omega) (by omega) (by omega), CA_l hc (a := 136) (by omega) (by omega) (by omega), CA_l hc (a := 137) (by omega) (by omega) (by omega), CA_r hc (a := 139) (by omega) (by omega) (by omega), CA_l hc (a := 140) (by omega) (by omega) (by omega), CA_r hc (a := 141) (by omega) (by omega) (by omega)]
    exact h4 k hk
  · rw [CA_l hc (a := 123) (by omega) (by omega) (by omega)]
    exact h5
theorem OPR_CA (hc : CA c d) {M a b : Nat} (h : OPR c m M a b) : OPR d m M a b := by
  unfold OPR at h ⊢
  rw [CA_l hc (a := 122) (by omega) (by omega) (by omega), CA_l hc (a := 123) (by omega) (by omega) (by omega), CA_r hc (a := 128) (by omega) (by omega) (by omega), CA_r hc (a := 129) (by omega) (by omega) (by omega)]
  exact ⟨h.1, fun z => TLR_CA hc (h.2.1 z), h.2.2⟩
theorem ACR_CA (hc : CA c d) {M i : Nat} (h : ACR c m M i) : ACR d m M i := by
  obtain ⟨h1, h2, h3, h4, h5, h6, h7, h8⟩ := h
  unfold ACR
  rw [fa_CA hc, CA_l hc (a := 121) (by omega) (by omega) (by omega), CA_r hc (a := 127) (by omega) (by omega) (by omega), CA_l hc (a := 124) (by omega) (by omega) (by omega), CA_l hc (a := 125) (by omega) (by omega) (by omega)]
  exact ⟨h1, h2, h3, h4, h5, h6, OPR_CA hc h7, h8⟩
theorem MTS_CA (hc : CA c d) (h : MTS c m) : MTS d m := by
  obtain ⟨⟨tot, h1, h2, h3⟩, h4, h5⟩ := h
  refine ⟨⟨tot, h1, ?_, fun M hM => ?_⟩, fun M hM => ⟨MTR_CA hc (h4 M hM).1, (h4 M hM).2.1, fun i hi => ACR_CA hc ((h4 M hM).2.2 i hi)⟩, fun M N hM hN hl => ?_⟩
  · rw [CA_l hc (a := 114) (by omega) (by omega) (by omega)]
    exact h2
  · rw [fa_CA hc]
    exact h3 M hM
  · rw [fa_CA hc, fa_CA hc]
    exact h5 M N hM hN hl
theorem PG_CA (hc : CA c d) (h : PG c m) : PG d m := ⟨EC_CA hc h.1, MMS_CA hc h.2.1, MTS_CA hc h.2.2⟩
end CAC
/-- there is a program in both, or in none -/
def PRG (c u : cS) : Prop := (c.1 7 0 = nI 0 ∧ u.1 174 14 = nI 0) ∨ (c.1 7 0 = nI 1 ∧ ∃ m, m.1 174 14 = nI 1 ∧ AG m u ∧ PG c m)
theorem srt_AG {m u : cS} {cc p : Nat} (hA : AG m u) : srt cc u p = srt cc m p := by
  have h1 : fM u = fM m := funext fun k => congrArg ix (hA.1 202 k rfl)
  have h2 : qM u = qM m := funext fun k => congrArg ix (hA.1 203 k rfl)
  have h3 : pM u = pM m := funext fun k => congrArg ix (hA.1 207 k rfl)
  unfold srt
  rw [h1, h2, h3]
theorem PC_AG {c m u : cS} {cc : Nat} (hA : AG m u) (h : PC cc c m) : PC cc c u := by
  have h1 : fM u = fM m := funext fun k => congrArg ix (hA.1 202 k rfl)
  have h2 : qM u = qM m := funext fun k => congrArg ix (hA.1 203 k rfl)
  have h3 : pM u = pM m := funext fun k => congrArg ix (hA.1 207 k rfl)
  obtain ⟨g1, g2, g3, g4, g5, g6⟩ := h
  refine ⟨g1, g2, ?_, fun k hk => ?_, fun k hk => ?_, fun k j hk hj => ?_⟩
  · rw [hA.2.2.1 37 rfl]
    exact g3
  · rw [h1, hA.1 202 k rfl]
    exact g4 k hk
  · rw [h2, hA.1 203 k rfl]
    exact g5 k hk
  · rw [h2] at hj
    rw [h3, hA.1 207 _ rfl]
    exact g6 k j hk hj
/-- a PLACE in both, or in none -/
theorem plA {n : Nat} {a : Int32} {c m u : cS} (h0 : c.1 7 0 = nI 1) (h0' : m.1 174 14 = nI 1) (hA : AG m u) (hC : CCS c m) :
    (d_21 n a c = some nM ∧ d_109 n a u = some (nI 0)) ∨ ∃ p s, p < 1200 ∧ a = nI p ∧ isP m p s ∧ s < 4 ∧ d_21 n a c = some (nI s) ∧ d_109 n a u = some (nI 1) ∧ d_110 n a = some (nI (2 ^ s)) := by
  have hu : u.1 174 14 = 1 := (hA.2.2.1 14 rfl).trans h0'
  rcases plc (n := n) (a := a) h0 hu (PC_AG hA hC.1) with ⟨h1, h2⟩ | ⟨p, s, h1, h2, h3, h4, h5, h6, h7⟩
  · exact Or.inl ⟨h1, h2⟩
  · rw [srt_AG hA] at h3
    exact Or.inr ⟨p, s, h1, h2, h3, h4, h5, h6, h7⟩
theorem pl0 {n : Nat} {a : Int32} {c u : cS} (h : c.1 7 0 = nI 0) (h' : u.1 174 14 = nI 0) : d_21 n a c = some nM ∧ d_109 n a u = some (nI 0) := by
  constructor
  · unfold d_21
    simp (disch := first | omega | decide) only [↓neg1, nlit, rI, rL, rI2, rL1, nI_add, pk_mul, sbT, dvT, nmd, ixT, ↓ibT, ltT, ltF, leT, leF, eqT, eqF, nM_ltT, nM_ltF, nM_leT, nM_leF, nM_eqF, nM_eqF', nbT0, nbT1, oI_s, oI_n, natF, natT, nltT, nltF, nleT, nleF, ↓reduceIte, lgc, not_true_eq_false, not_false_eq_true, or_false, false_or, or_true, true_or, and_true, true_and, and_false, false_and, ne_eq, eq_self, or_self, and_self, obs, ↓jn, ↓lt, ↓reduceIte, decide_true, decide_false, Bool.false_eq_true, Bool.and_true, Bool.and_false, Bool.true_and, Bool.false_and, Bool.or_false, Bool.false_or, Bool.or_true, Bool.true_or, h]
  · unfold d_109
    simp (disch := first | omega | decide) only [↓neg1, nlit, rI, rL, rI2, rL1, nI_add, pk_mul, sbT, dvT, nmd, ixT, ↓ibT, ltT, ltF, leT, leF, eqT, eqF, nM_ltT, nM_ltF, nM_leT, nM_leF, nM_eqF, nM_eqF', nbT0, nbT1, oI_s, oI_n, natF, natT, nltT, nltF, nleT, nleF, ↓reduceIte, lgc, not_true_eq_false, not_false_eq_true, or_false, false_or, or_true, true_or, and_true, true_and, and_false, false_and, ne_eq, eq_self, or_self, and_self, obs, ↓jn, ↓lt, ↓reduceIte, decide_true, decide_false, Bool.false_eq_true, Bool.and_true, Bool.and_false, Bool.true_and, Bool.false_and, Bool.or_false, Bool.false_or, Bool.or_true, Bool.true_or, h']
    all_goals exact if_pos (Or.inl rfl)
