/-! READING MARKS: the NAME of a MARK -/
section MNM
variable {n i j N t k rc rr U w oc kc mc cc : Nat} {c d u : cS} {K P : Nat → Nat} {V : Nat → Int64} {b : Bool} {nm : Int64}
/-- the KIND or ORDER of a NAME: a KIND's number, 100 more than an ORDER's -/
def tgt (u : cS) (oc kc : Nat) (v : Int64) : Option Nat := match fO u oc v with
  | some o => some (100 + o)
  | none => fK u kc v
theorem tgt_o {o : Nat} (h : fO u oc nm = some o) : tgt u oc kc nm = some (100 + o) := by
  unfold tgt
  rw [h]
theorem tgt_n (h : fO u oc nm = none) : tgt u oc kc nm = fK u kc nm := by
  unfold tgt
  rw [h]
/-- NAMES of ORDERS and KINDS alone -/
def NMQ (c u : cS) (oc kc : Nat) : Prop := (oc ≤ 4 ∧ c.1 7 2 = nI oc ∧ u.1 174 15 = nI oc ∧ ∀ o, o < oc → c.2 (oA o) 0 = u.2 181 o) ∧ (kc ≤ 12 ∧ c.1 7 4 = nI kc ∧ u.1 174 24 = nI kc ∧ ∀ k, k < kc → c.2 (kA k) 0 = u.2 189 k)
theorem NMQ_of (h : NMR c u oc kc mc cc) : NMQ c u oc kc := ⟨h.1, h.2.1⟩
theorem NMQ_cg {c' u' : cS} (h : NMQ c u oc kc) (a1 : ∀ j, j = 2 ∨ j = 4 → c'.1 7 j = c.1 7 j) (a2 : ∀ o, o < oc → c'.2 (oA o) 0 = c.2 (oA o) 0) (a3 : ∀ k, k < kc → c'.2 (kA k) 0 = c.2 (kA k) 0) (b1 : ∀ j, j = 15 ∨ j = 24 → u'.1 174 j = u.1 174 j) (b2 : ∀ o, o < oc → u'.2 181 o = u.2 181 o) (b3 : ∀ k, k < kc → u'.2 189 k = u.2 189 k) : NMQ c' u' oc kc := by
  obtain ⟨⟨h1, h2, h3, h4⟩, ⟨k1, k2, k3, k4⟩⟩ := h
  exact ⟨⟨h1, (a1 2 (by omega)).trans h2, (b1 15 (by omega)).trans h3, fun o ho => by rw [a2 o ho, b2 o ho]; exact h4 o ho⟩, ⟨k1, (a1 4 (by omega)).trans k2, (b1 24 (by omega)).trans k3, fun k hk => by rw [a3 k hk, b3 k hk]; exact k4 k hk⟩⟩
theorem NMQ_at (h : NMQ c u oc kc) : NMQ (atC c i) (atR u i) oc kc := by
  have C : ∀ A j, A ≠ 145 → (atC c i).1 A j = c.1 A j := fun A j z => by
    unfold atC
    rw [rI, if_neg (by omega)]
  have U : ∀ A j, ¬ (A = 174 ∧ j = 67) → (atR u i).1 A j = u.1 A j := fun A j z => by
    unfold atR
    rw [rI, if_neg z]
  exact NMQ_cg h (fun j _ => C _ _ (by omega)) (fun _ _ => rfl) (fun _ _ => rfl) (fun j _ => U _ _ (by omega)) (fun _ _ => rfl) (fun _ _ => rfl)
theorem g372 (hn : 100 ≤ n) (h : NMQ c u oc kc) : d_372 n nm u = some (oI (fO u oc nm)) := by
  obtain ⟨⟨h1, h2, h3, h4⟩, -⟩ := h
  unfold d_372
  refine bwf (fun k => nI k) (Sum.inl ()) (fun k => Sum.inr (nI k)) (fun k => decide (u.2 181 k = nm)) (cnt := oc) (by omega) rfl ?_ (fun j hj => ?_) ?_
  · simp (disch := first | omega | decide) only [↓neg1, nlit, rI, rL, rI2, rL1, nI_add, pk_mul, sbT, dvT, nmd, ixT, ↓ibT, ltT, ltF, leT, leF, eqT, eqF, nM_ltT, nM_ltF, nM_leT, nM_leF, nM_eqF, nM_eqF', nbT0, nbT1, oI_s, oI_n, natF, natT, nltT, nltF, nleT, nleF, ↓reduceIte, lgc, not_true_eq_false, not_false_eq_true, or_false, false_or, or_true, true_or, and_true, true_and, and_false, false_and, ne_eq, eq_self, or_self, and_self, obs, ↓jn, ↓lt, ↓reduceIte, decide_true, decide_false, Bool.false_eq_true, Bool.and_true, Bool.and_false, Bool.true_and, Bool.false_and, Bool.or_false, Bool.false_or, Bool.or_true, Bool.true_or, h3]
  · by_cases hv : u.2 181 j = nm
    · simp (disch := first | omega | decide) only [↓neg1, nlit, rI, rL, rI2, rL1, nI_add, pk_mul, sbT, dvT, nmd, ixT, ↓ibT, ltT, ltF, leT, leF, eqT, eqF, nM_ltT, nM_ltF, nM_leT, nM_leF, nM_eqF, nM_eqF', nbT0, nbT1, oI_s, oI_n, natF, natT, nltT, nltF, nleT, nleF, ↓reduceIte, lgc, not_true_eq_false, not_false_eq_true, or_false, false_or, or_true, true_or, and_true, true_and, and_false, false_and, ne_eq, eq_self, or_self, and_self, obs, ↓jn, ↓lt, ↓reduceIte, decide_true, decide_false, Bool.false_eq_true, Bool.and_true, Bool.and_false, Bool.true_and, Bool.false_and, Bool.or_false, Bool.false_or, Bool.or_true, Bool.true_or, h3, hv]
    · simp (disch := first | omega | decide) only [↓neg1, nlit, rI, rL, rI2, rL1, nI_add, pk_mul, sbT, dvT, nmd, ixT, ↓ibT, ltT, ltF, leT, leF, eqT, eqF, nM_ltT, nM_ltF, nM_leT, nM_leF, nM_eqF, nM_eqF', nbT0, nbT1, oI_s, oI_n, natF, natT, nltT, nltF, nleT, nleF, ↓reduceIte, lgc, not_true_eq_false, not_false_eq_true, or_false, false_or, or_true, true_or, and_true, true_and, and_false, false_and, ne_eq, eq_self, or_self, and_self, obs, ↓jn, ↓lt, ↓reduceIte, decide_true, decide_false, Bool.false_eq_true, Bool.and_true, Bool.and_false, Bool.true_and, Bool.false_and, Bool.or_false, Bool.false_or, Bool.or_true, Bool.true_or, h3, hv]
  · unfold fO
    cases ff _ _ <;> rfl
theorem g247 (hn : 100 ≤ n) (h : NMQ c u oc kc) : d_247 n nm c = some (oI (fO u oc nm)) := by
  obtain ⟨⟨h1, h2, h3, h4⟩, -⟩ := h
  unfold d_247
  refine bwf (fun k => nI k) (Sum.inl ()) (fun k => Sum.inr (nI k)) (fun k => decide (u.2 181 k = nm)) (cnt := oc) (by omega) rfl ?_ (fun j hj => ?_) ?_
  · simp (disch := first | omega | decide) only [↓neg1, nlit, rI, rL, rI2, rL1, nI_add, pk_mul, sbT, dvT, nmd, ixT, ↓ibT, ltT, ltF, leT, leF, eqT, eqF, nM_ltT, nM_ltF, nM_leT, nM_leF, nM_eqF, nM_eqF', nbT0, nbT1, oI_s, oI_n, natF, natT, nltT, nltF, nleT, nleF, ↓reduceIte, lgc, not_true_eq_false, not_false_eq_true, or_false, false_or, or_true, true_or, and_true, true_and, and_false, false_and, ne_eq, eq_self, or_self, and_self, obs, ↓jn, ↓lt, ↓reduceIte, decide_true, decide_false, Bool.false_eq_true, Bool.and_true, Bool.and_false, Bool.true_and, Bool.false_and, Bool.or_false, Bool.false_or, Bool.or_true, Bool.true_or, h2, h4]
  · by_cases hv : u.2 181 j = nm
    · simp (disch := first | omega | decide) only [↓neg1, nlit, rI, rL, rI2, rL1, nI_add, pk_mul, sbT, dvT, nmd, ixT, ↓ibT, ltT, ltF, leT, leF, eqT, eqF, nM_ltT, nM_ltF, nM_leT, nM_leF, nM_eqF, nM_eqF', nbT0, nbT1, oI_s, oI_n, natF, natT, nltT, nltF, nleT, nleF, ↓reduceIte, lgc, not_true_eq_false, not_false_eq_true, or_false, false_or, or_true, true_or, and_true, true_and, and_false, false_and, ne_eq, eq_self, or_self, and_self, obs, ↓jn, ↓lt, ↓reduceIte, decide_true, decide_false, Bool.false_eq_true, Bool.and_true, Bool.and_false, Bool.true_and, Bool.false_and, Bool.or_false, Bool.false_or, Bool.or_true, Bool.true_or, h2, h4, hv]
    · simp (disch := first | omega | decide) only [↓neg1, nlit, rI, rL, rI2, rL1, nI_add, pk_mul, sbT, dvT, nmd, ixT, ↓ibT, ltT, ltF, leT, leF, eqT, eqF, nM_ltT, nM_ltF, nM_leT, nM_leF, nM_eqF, nM_eqF', nbT0, nbT1, oI_s, oI_n, natF, natT, nltT, nltF, nleT, nleF, ↓reduceIte, lgc, not_true_eq_false, not_false_eq_true, or_false, false_or, or_true, true_or, and_true, true_and, and_false, false_and, ne_eq, eq_self, or_self, and_self, obs, ↓jn, ↓lt, ↓reduceIte, decide_true, decide_false, Bool.false_eq_true, Bool.and_true, Bool.and_false, Bool.true_and, Bool.false_and, Bool.or_false, Bool.false_or, Bool.or_true, Bool.true_or, h2, h4, hv]
  · unfold fO
    cases ff _ _ <;> rfl
theorem g373 (hn : 100 ≤ n) (h : NMQ c u oc kc) : d_373 n nm u = some (oI (fK u kc nm)) := by
  obtain ⟨-, ⟨h1, h2, h3, h4⟩⟩ := h
  unfold d_373
  refine bwf (fun k => nI k) (Sum.inl ()) (fun k => Sum.inr (nI k)) (fun k => decide (u.2 189 k = nm)) (cnt := kc) (by omega) rfl ?_ (fun j hj => ?_) ?_
  · simp (disch := first | omega | decide) only [↓neg1, nlit, rI, rL, rI2, rL1, nI_add, pk_mul, sbT, dvT, nmd, ixT, ↓ibT, ltT, ltF, leT, leF, eqT, eqF, nM_ltT, nM_ltF, nM_leT, nM_leF, nM_eqF, nM_eqF', nbT0, nbT1, oI_s, oI_n, natF, natT, nltT, nltF, nleT, nleF, ↓reduceIte, lgc, not_true_eq_false, not_false_eq_true, or_false, false_or, or_true, true_or, and_true, true_and, and_false, false_and, ne_eq, eq_self, or_self, and_self, obs, ↓jn, ↓lt, ↓reduceIte, decide_true, decide_false, Bool.false_eq_true, Bool.and_true, Bool.and_false, Bool.true_and, Bool.false_and, Bool.or_false, Bool.false_or, Bool.or_true, Bool.true_or, h3]
  · by_cases hv : u.2 189 j = nm
    · simp (disch := first | omega | decide) only [↓neg1, nlit, rI, rL, rI2, rL1, nI_add, pk_mul, sbT, dvT, nmd, ixT, ↓ibT, ltT, ltF, leT, leF, eqT, eqF, nM_ltT, nM_ltF, nM_leT, nM_leF, nM_eqF, nM_eqF', nbT0, nbT1, oI_s, oI_n, natF, natT, nltT, nltF, nleT, nleF, ↓reduceIte, lgc, not_true_eq_false, not_false_eq_true, or_false, false_or, or_true, true_or, and_true, true_and, and_false, false_and, ne_eq, eq_self, or_self, and_self, obs, ↓jn, ↓lt, ↓reduceIte, decide_true, decide_false, Bool.false_eq_true, Bool.and_true, Bool.and_false, Bool.true_and, Bool.false_and, Bool.or_false, Bool.false_or, Bool.or_true, Bool.true_or, h3, hv]
    · simp (disch := first | omega | decide) only [↓neg1, nlit, rI, rL, rI2, rL1, nI_add, pk_mul, sbT, dvT, nmd, ixT, ↓ibT, ltT, ltF, leT, leF, eqT, eqF, nM_ltT, nM_ltF, nM_leT, nM_leF, nM_eqF, nM_eqF', nbT0, nbT1, oI_s, oI_n, natF, natT, nltT, nltF, nleT, nleF, ↓reduceIte, lgc, not_true_eq_false, not_false_eq_true, or_false, false_or, or_true, true_or, and_true, true_and, and_false, false_and, ne_eq, eq_self, or_self, and_self, obs, ↓jn, ↓lt, ↓reduceIte, decide_true, decide_false, Bool.false_eq_true, Bool.and_true, Bool.and_false, Bool.true_and, Bool.false_and, Bool.or_false, Bool.false_or, Bool.or_true, Bool.true_or, h3, hv]
  · unfold fK
    cases ff _ _ <;> rfl
theorem g248 (hn : 100 ≤ n) (h : NMQ c u oc kc) : d_248 n nm c = some (oI (fK u kc nm)) := by
  obtain ⟨-, ⟨h1, h2, h3, h4⟩⟩ := h
  unfold d_248
  refine bwf (fun k => nI k) (Sum.inl ()) (fun k => Sum.inr (nI k)) (fun k => decide (u.2 189 k = nm)) (cnt := kc) (by omega) rfl ?_ (fun j hj => ?_) ?_
  · simp (disch := first | omega | decide) only [↓neg1, nlit, rI, rL, rI2, rL1, nI_add, pk_mul, sbT, dvT, nmd, ixT, ↓ibT, ltT, ltF, leT, leF, eqT, eqF, nM_ltT, nM_ltF, nM_leT, nM_leF, nM_eqF, nM_eqF', nbT0, nbT1, oI_s, oI_n, natF, natT, nltT, nltF, nleT, nleF, ↓reduceIte, lgc, not_true_eq_false, not_false_eq_true, or_false, false_or, or_true, true_or, and_true, true_and, and_false, false_and, ne_eq, eq_self, or_self, and_self, obs, ↓jn, ↓lt, ↓reduceIte, decide_true, decide_false, Bool.false_eq_true, Bool.and_true, Bool.and_false, Bool.true_and, Bool.false_and, Bool.or_false, Bool.false_or, Bool.or_true, Bool.true_or, h2, h4]
  · by_cases hv : u.2 189 j = nm
    · simp (disch := first | omega | decide) only [↓neg1, nlit, rI, rL, rI2, rL1, nI_add, pk_mul, sbT, dvT, nmd, ixT, ↓ibT, ltT, ltF, leT, leF, eqT, eqF, nM_ltT, nM_ltF, nM_leT, nM_leF, nM_eqF, nM_eqF', nbT0, nbT1, oI_s, oI_n, natF, natT, nltT, nltF, nleT, nleF, ↓reduceIte, lgc, not_true_eq_false, not_false_eq_true, or_false, false_or, or_true, true_or, and_true, true_and, and_false, false_and, ne_eq, eq_self, or_self, and_self, obs, ↓jn, ↓lt, ↓reduceIte, decide_true, decide_false, Bool.false_eq_true, Bool.and_true, Bool.and_false, Bool.true_and, Bool.false_and, Bool.or_false, Bool.false_or, Bool.or_true, Bool.true_or, h2, h4, hv]
    · simp (disch := first | omega | decide) only [↓neg1, nlit, rI, rL, rI2, rL1, nI_add, pk_mul, sbT, dvT, nmd, ixT, ↓ibT, ltT, ltF, leT, leF, eqT, eqF, nM_ltT, nM_ltF, nM_leT, nM_leF, nM_eqF, nM_eqF', nbT0, nbT1, oI_s, oI_n, natF, natT, nltT, nltF, nleT, nleF, ↓reduceIte, lgc, not_true_eq_false, not_false_eq_true, or_false, false_or, or_true, true_or, and_true, true_and, and_false, false_and, ne_eq, eq_self, or_self, and_self, obs, ↓jn, ↓lt, ↓reduceIte, decide_true, decide_false, Bool.false_eq_true, Bool.and_true, Bool.and_false, Bool.true_and, Bool.false_and, Bool.or_false, Bool.false_or, Bool.or_true, Bool.true_or, h2, h4, hv]
  · unfold fK
    cases ff _ _ <;> rfl
theorem g246 (hn : 100 ≤ n) (h : NMQ c u oc kc) : d_246 n nm c = some (match fO u oc nm with | some o => nI (100 + o) | none => oI (fK u kc nm)) := by
  have b1 := h.1.1
  unfold d_246
  refine eq_wp (wpe (g247 hn h) (wpj ?_))
  cases e1 : fO u oc nm with
  | some o =>
    have := fO_lt e1
    refine wpf (nI_pos (by omega)) ?_
    show (100 : Int32) + nI o = _
    rw [show (100 : Int32) = nI 100 from rfl, nI_add]
  | none => exact wpt (by decide) (wpe (g248 hn h) rfl)
theorem f246t (hn : 100 ≤ n) (h : NMQ c u oc kc) : d_246 n nm c = some (oI (tgt u oc kc nm)) := by
  rw [g246 hn h]
  cases e : fO u oc nm with
  | some o => rw [tgt_o e]; rfl
  | none => rw [tgt_n e]
/-- what the reading of MARKS needs of what is read already -/
def ENV (c u : cS) (oc kc mc cc : Nat) : Prop := NMQ c u oc kc ∧ PO oc c u ∧ ∀ k, k < kc → RK c u k
theorem ENV_t (h : ENV c u oc kc mc cc) (ht : tgt u oc kc nm = some t) : (t < kc ∧ fO u oc nm = none ∧ fK u kc nm = some t) ∨ (∃ o, o < oc ∧ t = 100 + o ∧ fO u oc nm = some o) := by
  cases e : fO u oc nm with
  | some o =>
    rw [tgt_o e] at ht
    cases ht
    exact Or.inr ⟨o, fO_lt e, rfl, rfl⟩
  | none =>
    rw [tgt_n e] at ht
    exact Or.inl ⟨(ff_some ht).1, rfl, ht⟩
theorem ENV_12 (h : ENV c u oc kc mc cc) (ht : tgt u oc kc nm = some t) : t < 12 ∨ (100 ≤ t ∧ t < 104) := by
  have h1 := h.1.1.1
  have h2 := h.1.2.1
  rcases ENV_t h ht with ⟨z, -⟩ | ⟨o, z, rfl, -⟩
  · omega
  · omega
theorem ENV_K (h : ENV c u oc kc mc cc) (ht : tgt u oc kc nm = some t) (h12 : t < 12) : RK c u t := by
  rcases ENV_t h ht with ⟨z, -⟩ | ⟨o, z, rfl, -⟩
  · exact h.2.2 t z
  · omega
/-- a row while it is read: k MARKS, the first of them U -/
def RWS (c u : cS) (rc rr U k : Nat) : Prop := c.1 133 11 = nI (U + k) ∧ c.1 133 12 = nM ∧ c.1 133 13 = nI (U + k) ∧ k ≤ 20 ∧ c.1 144 rc = nI k ∧ u.1 222 rr = nI k ∧ (0 < k → c.1 142 rc = nI U ∧ c.1 143 rc = nI (U + k - 1)) ∧ (∀ j, j < k → c.1 138 (U + j) = if j + 1 < k then nI (U + j + 1) else nM) ∧ ∀ j, j < k → c.2 134 (U + j) = u.2 223 (rr * 20 + j)
def dpl (u : cS) (rr k t : Nat) (v : Int64) : Bool := hnm u rr k v && !(mny u t)
/-- the class -/
theorem m2C_go {Q : (Int32 × cS) ⊕ cS → Prop} (hn : 10000 ≤ n) (hP : PSI K P V N c u j) (hV : ENV c u oc kc mc cc) (hR : RWS c u rc rr U k) (hr : rc < 2242) (hU : U + k < 4096) (hw : w ≤ 6)
  (kA : ¬ K j = 1 → Q (.inr (flC c 2 (nI (P j))))) (kB : K j = 1 → tgt u oc kc (V j) = none → Q (.inr (flC c 5 (nI (P j))))) (kC : ∀ t, K j = 1 → tgt u oc kc (V j) = some t → dpl u rr k t (V j) = true → Q (.inr (flC c 3 (nI (P j))))) (kD : ∀ t, K j = 1 → tgt u oc kc (V j) = some t → dpl u rr k t (V j) = false → ftW u t w = false → Q (.inr (flC c 7 (nI (P j)))))
  (kE : ∀ t d, K j = 1 → tgt u oc kc (V j) = some t → dpl u rr k t (V j) = false → ftW u t w = true → APD c d rc (U + k) k (V j) → Q (.inl (nI (U + k), pI (pI (pI d 135 (U + k) (nI t)) 136 (U + k) (if b = true then nM else nI 0)) 145 7 (nI (j + 1))))) : wp (m2C n (nI rc) (nI w) (bI b, c)) Q := by
  have h259 := e259 (n := n) hP
  have h42 := e42 (n := n) hP
  obtain ⟨w1, w2, w3, w4, w5, w6, w7, w8, w9⟩ := hR
  unfold m2C
  dsimp only
  by_cases e1 : K j = 1
  rotate_left
  · rw [if_neg e1] at h259
    exact wpe h259 (wpSr (kA e1))
  rw [if_pos e1] at h259
  refine wpe h259 (wpSl (wpe (f246t (by omega) hV.1) (wpj ?_)))
  dsimp only
  cases ht : tgt u oc kc (V j) with
  | none => exact wpf (by decide) (wpe h42 (wpe e41 (kB e1 ht)))
  | some t =>
    have h12 := ENV_12 hV ht
    have hRK := fun z => ENV_K hV ht z
    refine wpt (nI_pos' (by omega)) (wpe (e229 (u := u) (rr := rr) (U := U) (by omega) hr w4 (by omega) w5 (fun z => (w7 z).1) (fun l hl => by rw [w8 l (by omega), if_pos hl]) w9) (wpj ?_))
    -- behind the look for another of this NAME
    have hrest : dpl u rr k t (V j) = false → wp (Option.bind (d_275 n (nI t) (nI w) c) (fun v15 =>
          jn (fun p16 : cS =>
            Option.bind (d_224 n (nI rc) (V j) p16) (fun r17 =>
            jn (fun p19 : cS =>
              if ib r17.1 4096 then
              lt (pI p19 135 (ix r17.1) (nI t)) (fun c21 =>
              jn (fun p23 : Int32 =>
                if ib r17.1 4096 then
                lt (pI c21 136 (ix r17.1) p23) (fun c25 =>
                lt (pI c25 145 7 ((c25.1 145 7) + 1)) (fun c27 =>
                some (.inl (r17.1, c27))))
                else none)
              (fun j197 =>
              if bI b = 0 then
                j197 0
              else
                j197 (-1)))
              else none)
            (fun j167 =>
            if 0 ≤ r17.1 then
              j167 r17.2
            else
              Option.bind (d_42 n r17.2) (fun v29 =>
              Option.bind (d_41 n 6 v29 r17.2) (Sum.elim (fun r30 =>
              j167 r30)
              (fun z31 => some (.inr z31)))))))
          (fun j140 =>
          if v15 = 0 then
            Option.bind (d_42 n c) (fun v32 =>
            Option.bind (d_41 n 7 v32 c) (Sum.elim (fun r33 =>
            j140 r33)
            (fun z34 => some (.inr z34))))
          else
            j140 c))) Q := fun hd => by
      refine wpe (e275 h12 hRK hw) (wpj ?_)
      cases hf : ftW u t w with
      | false => exact wpt rfl (wpe h42 (wpe e41 (kD t e1 ht hd hf)))
      | true =>
        refine wpf (by decide) (wpc (e224 (nm := V j) w1 w2 w3 hU hr w5 w4 (fun z => ⟨(w7 z).2, by omega⟩)) (fun r hr2 => wpj ?_))
        obtain ⟨r1, r2⟩ := hr2
        obtain ⟨r, d⟩ := r
        dsimp only at r1 r2
        subst r1
        have him : ib (nI (U + k)) 4096 := ib_n hU (by decide)
        dsimp only
        refine wpt (nI_pos' (by omega)) (wpt him ?_)
        rw [ix_n (show U + k < 2147483648 by omega)]
        have s7 : d.1 145 7 = nI j := (r2.2.2.2.2.2.2.2.2.2.2.2.1 145 7 (decide_eq_false (by omega))).trans hP.2.2.1
        refine wpl (wpjQ (fun p : Int32 => p = if b = true then nM else nI 0) ?_ ?_)
        · rintro p rfl
          refine wpt him (wpl ?_)
          rw [show (pI (pI d 135 (U + k) (nI t)) 136 (U + k) (if b = true then nM else nI 0)).1 145 7 = nI j by rw [rI, if_neg (by omega), rI, if_neg (by omega)]; exact s7, nI_1]
          exact wpl (kE t d e1 ht hd hf r2)
        · intro Q' k' hk'
          cases b with
          | true => exact wpf (by decide) (hk' _ rfl)
          | false => exact wpt rfl (hk' _ rfl)
    cases hh : hnm u rr k (V j) with
    | false => exact wpt rfl (hrest (by unfold dpl; rw [hh]; rfl))
    | true =>
      refine wpf (by decide) (wpe (e251 h12 hRK) ?_)
      cases hm : mny u t with
      | true => exact wpf (by decide) (hrest (by unfold dpl; rw [hh, hm]; rfl))
      | false => exact wpt rfl (wpe h42 (wpe e41 (kC t e1 ht (by unfold dpl; rw [hh, hm]; rfl))))
end MNM
