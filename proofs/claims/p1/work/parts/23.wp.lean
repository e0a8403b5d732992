/-! WHAT A RUN COMES TO: rules, an instruction a rule -/
section RQ
variable {P : rx_P} {mi F Lo cb sb pc pc' : Nat} {lv : rx_L} {st : List Value} {L : List va_E} {Q : ((Option Value) ⊕ String) → List va_E → Prop}
/-- from here the run ends, with Q, and makes at most cb cells of sb slots -/
def rq (P : rx_P) (mi F Lo cb sb pc : Nat) (lv : rx_L) (st : List Value) (L : List va_E) (Q : ((Option Value) ⊕ String) → List va_E → Prop) : Prop := ∃ o L2 c n, rv P mi F Lo pc lv st L (o, L2, c, n) ∧ c ≤ cb ∧ n ≤ sb ∧ Q o L2
/-- an instruction, and where the next one stands -/
def ri (P : rx_P) (mi pc : Nat) (ins : Instr) (pc' : Nat) : Prop := rx_xt P mi pc = none ∧ rx_cd P mi pc = some ins ∧ pc + rx_len ins = pc'
def rtg (pc : Nat) (off : Int) (tg : Nat) : Prop := 0 ≤ (pc : Int) + off ∧ rx_nat pc off = tg
theorem rq_mono {Q' : ((Option Value) ⊕ String) → List va_E → Prop} {cb' sb' : Nat} (h : rq P mi F Lo cb sb pc lv st L Q) (hc : cb ≤ cb') (hs : sb ≤ sb') (hQ : ∀ o L1, Q o L1 → Q' o L1) : rq P mi F Lo cb' sb' pc lv st L Q' := by
  obtain ⟨o, L2, c, n, h1, h2, h3, h4⟩ := h
  exact ⟨o, L2, c, n, h1, Nat.le_trans h2 hc, Nat.le_trans h3 hs, hQ _ _ h4⟩
theorem rq_pure {ins : Instr} {st' : List Value} (h : ri P mi pc ins pc') (e : rx_pure ins st = some st') (k : rq P mi F Lo cb sb pc' lv st' L Q) : rq P mi F Lo cb sb pc lv st L Q := by
  obtain ⟨o, L2, c, n, h1, h2⟩ := k
  obtain ⟨hx, hc, rfl⟩ := h
  exact ⟨o, L2, c, n, rv_pure hx hc e h1, h2⟩
theorem rq_loc {ins : Instr} {lv' : rx_L} {st' : List Value} (h : ri P mi pc ins pc') (e0 : rx_pure ins st = none) (e : rx_loc ins (rx_ml P mi) lv st = some (lv', st')) (k : rq P mi F Lo cb sb pc' lv' st' L Q) : rq P mi F Lo cb sb pc lv st L Q := by
  obtain ⟨o, L2, c, n, h1, h2⟩ := k
  obtain ⟨hx, hc, rfl⟩ := h
  exact ⟨o, L2, c, n, rv_loc hx hc e0 e h1, h2⟩
theorem rq_jmp {ins : Instr} {pc2 : Nat} {st' : List Value} (h : ri P mi pc ins pc') (e0 : rx_pure ins st = none) (e1 : rx_loc ins (rx_ml P mi) lv st = none) (e : rx_jmp ins pc st = some (pc2, st')) (k : rq P mi F Lo cb sb pc2 lv st' L Q) : rq P mi F Lo cb sb pc lv st L Q := by
  obtain ⟨o, L2, c, n, h1, h2⟩ := k
  exact ⟨o, L2, c, n, rv_jmp h.1 h.2.1 e0 e1 e h1, h2⟩
theorem rq_heap {ins : Instr} {st' : List Value} {L' : List va_E} (h : ri P mi pc ins pc') (e0 : rx_pure ins st = none) (e1 : rx_loc ins (rx_ml P mi) lv st = none) (e2 : rx_jmp ins pc st = none) (e : rx_heap P mi ins st L = some (st', L', 0, 0)) (k : rq P mi F Lo cb sb pc' lv st' L' Q) : rq P mi F Lo cb sb pc lv st L Q := by
  obtain ⟨o, L2, c, n, h1, h2, h3, h4⟩ := k
  obtain ⟨hx, hc, rfl⟩ := h
  have := rv_heap hx hc e0 e1 e2 e h1
  rw [Nat.zero_add, Nat.zero_add] at this
  exact ⟨o, L2, c, n, this, h2, h3, h4⟩
theorem rq_ret {ins : Instr} {v : Option Value} (h : ri P mi pc ins pc') (e0 : rx_pure ins st = none) (e1 : rx_loc ins (rx_ml P mi) lv st = none) (e2 : rx_jmp ins pc st = none) (e3 : rx_heap P mi ins st L = none) (e : rx_ret ins st (rx_rt P mi) = some v) (k : Q (.inl v) L) : rq P mi F Lo cb sb pc lv st L Q :=
  ⟨_, _, _, _, rv_ret h.1 h.2.1 e0 e1 e2 e3 e, Nat.zero_le _, Nat.zero_le _, k⟩
theorem rq_throw {E : String} {nf nl : Nat} (hx : rx_xt P mi pc = some (E, nf, nl)) (h1 : nf < F) (h2 : nl ≤ Lo) (hc : 1 ≤ cb) (hs : 6 ≤ sb) (k : Q (.inr E) L) : rq P mi F Lo cb sb pc lv [] L Q :=
  ⟨_, _, _, _, rv_throw hx h1 h2, hc, hs, k⟩
/-- jumps -/
theorem rq_goto {off : Int} {tg : Nat} (h : ri P mi pc (.goto off) pc') (ht : rtg pc off tg) (k : rq P mi F Lo cb sb tg lv st L Q) : rq P mi F Lo cb sb pc lv st L Q := by
  refine rq_jmp h rfl rfl (pc2 := tg) ?_ k
  show (if 0 ≤ (pc : Int) + off then some (rx_nat pc off, st) else none) = _
  rw [if_pos ht.1, ht.2]
theorem rq_ifeq {off : Int} {tg : Nat} {x : Int32} {r : List Value} (h : ri P mi pc (.ifCond .eq off) pc') (ht : rtg pc off tg) (k1 : x = 0 → rq P mi F Lo cb sb tg lv r L Q) (k2 : ¬ x = 0 → rq P mi F Lo cb sb pc' lv r L Q) : rq P mi F Lo cb sb pc lv (.int x :: r) L Q := by
  by_cases hc : x = 0
  · refine rq_jmp h rfl rfl (pc2 := tg) ?_ (k1 hc)
    show (if 0 ≤ (pc : Int) + off then some (if x = 0 then rx_nat pc off else pc + 3, r) else none) = _
    rw [if_pos ht.1, if_pos hc, ht.2]
  · have hc' : ¬ x = 0 := hc
    refine rq_jmp h rfl rfl (pc2 := pc') ?_ (k2 hc')
    show (if 0 ≤ (pc : Int) + off then some (if x = 0 then rx_nat pc off else pc + 3, r) else none) = _
    rw [if_pos ht.1, if_neg hc', ← h.2.2]
    rfl
theorem rq_ifne {off : Int} {tg : Nat} {x : Int32} {r : List Value} (h : ri P mi pc (.ifCond .ne off) pc') (ht : rtg pc off tg) (k1 : ¬ x = 0 → rq P mi F Lo cb sb tg lv r L Q) (k2 : x = 0 → rq P mi F Lo cb sb pc' lv r L Q) : rq P mi F Lo cb sb pc lv (.int x :: r) L Q := by
  by_cases hc : ¬ x = 0
  · refine rq_jmp h rfl rfl (pc2 := tg) ?_ (k1 hc)
    show (if 0 ≤ (pc : Int) + off then some (if x = 0 then pc + 3 else rx_nat pc off, r) else none) = _
    rw [if_pos ht.1, if_neg hc, ht.2]
  · have hc' : x = 0 := Decidable.not_not.mp hc
    refine rq_jmp h rfl rfl (pc2 := pc') ?_ (k2 hc')
    show (if 0 ≤ (pc : Int) + off then some (if x = 0 then pc + 3 else rx_nat pc off, r) else none) = _
    rw [if_pos ht.1, if_pos hc', ← h.2.2]
    rfl
theorem rq_iflt {off : Int} {tg : Nat} {x : Int32} {r : List Value} (h : ri P mi pc (.ifCond .lt off) pc') (ht : rtg pc off tg) (k1 : x < 0 → rq P mi F Lo cb sb tg lv r L Q) (k2 : ¬ x < 0 → rq P mi F Lo cb sb pc' lv r L Q) : rq P mi F Lo cb sb pc lv (.int x :: r) L Q := by
  by_cases hc : x < 0
  · refine rq_jmp h rfl rfl (pc2 := tg) ?_ (k1 hc)
    show (if 0 ≤ (pc : Int) + off then some (if x < 0 then rx_nat pc off else pc + 3, r) else none) = _
    rw [if_pos ht.1, if_pos hc, ht.2]
  · have hc' : ¬ x < 0 := hc
    refine rq_jmp h rfl rfl (pc2 := pc') ?_ (k2 hc')
    show (if 0 ≤ (pc : Int) + off then some (if x < 0 then rx_nat pc off else pc + 3, r) else none) = _
    rw [if_pos ht.1, if_neg hc', ← h.2.2]
    rfl
theorem rq_ifge {off : Int} {tg : Nat} {x : Int32} {r : List Value} (h : ri P mi pc (.ifCond .ge off) pc') (ht : rtg pc off tg) (k1 : 0 ≤ x → rq P mi F Lo cb sb tg lv r L Q) (k2 : ¬ 0 ≤ x → rq P mi F Lo cb sb pc' lv r L Q) : rq P mi F Lo cb sb pc lv (.int x :: r) L Q := by
  by_cases hc : 0 ≤ x
  · refine rq_jmp h rfl rfl (pc2 := tg) ?_ (k1 hc)
    show (if 0 ≤ (pc : Int) + off then some (if 0 ≤ x then rx_nat pc off else pc + 3, r) else none) = _
    rw [if_pos ht.1, if_pos hc, ht.2]
  · have hc' : ¬ 0 ≤ x := hc
    refine rq_jmp h rfl rfl (pc2 := pc') ?_ (k2 hc')
    show (if 0 ≤ (pc : Int) + off then some (if 0 ≤ x then rx_nat pc off else pc + 3, r) else none) = _
    rw [if_pos ht.1, if_neg hc', ← h.2.2]
    rfl
theorem rq_ifgt {off : Int} {tg : Nat} {x : Int32} {r : List Value} (h : ri P mi pc (.ifCond .gt off) pc') (ht : rtg pc off tg) (k1 : 0 < x → rq P mi F Lo cb sb tg lv r L Q) (k2 : ¬ 0 < x → rq P mi F Lo cb sb pc' lv r L Q) : rq P mi F Lo cb sb pc lv (.int x :: r) L Q := by
  by_cases hc : 0 < x
  · refine rq_jmp h rfl rfl (pc2 := tg) ?_ (k1 hc)
    show (if 0 ≤ (pc : Int) + off then some (if 0 < x then rx_nat pc off else pc + 3, r) else none) = _
    rw [if_pos ht.1, if_pos hc, ht.2]
  · have hc' : ¬ 0 < x := hc
    refine rq_jmp h rfl rfl (pc2 := pc') ?_ (k2 hc')
    show (if 0 ≤ (pc : Int) + off then some (if 0 < x then rx_nat pc off else pc + 3, r) else none) = _
    rw [if_pos ht.1, if_neg hc', ← h.2.2]
    rfl
theorem rq_ifle {off : Int} {tg : Nat} {x : Int32} {r : List Value} (h : ri P mi pc (.ifCond .le off) pc') (ht : rtg pc off tg) (k1 : x ≤ 0 → rq P mi F Lo cb sb tg lv r L Q) (k2 : ¬ x ≤ 0 → rq P mi F Lo cb sb pc' lv r L Q) : rq P mi F Lo cb sb pc lv (.int x :: r) L Q := by
  by_cases hc : x ≤ 0
  · refine rq_jmp h rfl rfl (pc2 := tg) ?_ (k1 hc)
    show (if 0 ≤ (pc : Int) + off then some (if x ≤ 0 then rx_nat pc off else pc + 3, r) else none) = _
    rw [if_pos ht.1, if_pos hc, ht.2]
  · have hc' : ¬ x ≤ 0 := hc
    refine rq_jmp h rfl rfl (pc2 := pc') ?_ (k2 hc')
    show (if 0 ≤ (pc : Int) + off then some (if x ≤ 0 then rx_nat pc off else pc + 3, r) else none) = _
    rw [if_pos ht.1, if_neg hc', ← h.2.2]
    rfl
theorem rq_iceq {off : Int} {tg : Nat} {x y : Int32} {r : List Value} (h : ri P mi pc (.if_icmp .eq off) pc') (ht : rtg pc off tg) (k1 : x = y → rq P mi F Lo cb sb tg lv r L Q) (k2 : ¬ x = y → rq P mi F Lo cb sb pc' lv r L Q) : rq P mi F Lo cb sb pc lv (.int y :: .int x :: r) L Q := by
  by_cases hc : x = y
  · refine rq_jmp h rfl rfl (pc2 := tg) ?_ (k1 hc)
    show (if 0 ≤ (pc : Int) + off then some (if x = y then rx_nat pc off else pc + 3, r) else none) = _
    rw [if_pos ht.1, if_pos hc, ht.2]
  · have hc' : ¬ x = y := hc
    refine rq_jmp h rfl rfl (pc2 := pc') ?_ (k2 hc')
    show (if 0 ≤ (pc : Int) + off then some (if x = y then rx_nat pc off else pc + 3, r) else none) = _
    rw [if_pos ht.1, if_neg hc', ← h.2.2]
    rfl
theorem rq_icne {off : Int} {tg : Nat} {x y : Int32} {r : List Value} (h : ri P mi pc (.if_icmp .ne off) pc') (ht : rtg pc off tg) (k1 : ¬ x = y → rq P mi F Lo cb sb tg lv r L Q) (k2 : x = y → rq P mi F Lo cb sb pc' lv r L Q) : rq P mi F Lo cb sb pc lv (.int y :: .int x :: r) L Q := by
  by_cases hc : ¬ x = y
  · refine rq_jmp h rfl rfl (pc2 := tg) ?_ (k1 hc)
    show (if 0 ≤ (pc : Int) + off then some (if x = y then pc + 3 else rx_nat pc off, r) else none) = _
    rw [if_pos ht.1, if_neg hc, ht.2]
  · have hc' : x = y := Decidable.not_not.mp hc
    refine rq_jmp h rfl rfl (pc2 := pc') ?_ (k2 hc')
    show (if 0 ≤ (pc : Int) + off then some (if x = y then pc + 3 else rx_nat pc off, r) else none) = _
    rw [if_pos ht.1, if_pos hc', ← h.2.2]
    rfl
theorem rq_iclt {off : Int} {tg : Nat} {x y : Int32} {r : List Value} (h : ri P mi pc (.if_icmp .lt off) pc') (ht : rtg pc off tg) (k1 : x < y → rq P mi F Lo cb sb tg lv r L Q) (k2 : ¬ x < y → rq P mi F Lo cb sb pc' lv r L Q) : rq P mi F Lo cb sb pc lv (.int y :: .int x :: r) L Q := by
  by_cases hc : x < y
  · refine rq_jmp h rfl rfl (pc2 := tg) ?_ (k1 hc)
    show (if 0 ≤ (pc : Int) + off then some (if x < y then rx_nat pc off else pc + 3, r) else none) = _
    rw [if_pos ht.1, if_pos hc, ht.2]
  · have hc' : ¬ x < y := hc
    refine rq_jmp h rfl rfl (pc2 := pc') ?_ (k2 hc')
    show (if 0 ≤ (pc : Int) + off then some (if x < y then rx_nat pc off else pc + 3, r) else none) = _
    rw [if_pos ht.1, if_neg hc', ← h.2.2]
    rfl
theorem rq_icge {off : Int} {tg : Nat} {x y : Int32} {r : List Value} (h : ri P mi pc (.if_icmp .ge off) pc') (ht : rtg pc off tg) (k1 : y ≤ x → rq P mi F Lo cb sb tg lv r L Q) (k2 : ¬ y ≤ x → rq P mi F Lo cb sb pc' lv r L Q) : rq P mi F Lo cb sb pc lv (.int y :: .int x :: r) L Q := by
  by_cases hc : y ≤ x
  · refine rq_jmp h rfl rfl (pc2 := tg) ?_ (k1 hc)
    show (if 0 ≤ (pc : Int) + off then some (if y ≤ x then rx_nat pc off else pc + 3, r) else none) = _
    rw [if_pos ht.1, if_pos hc, ht.2]
  · have hc' : ¬ y ≤ x := hc
    refine rq_jmp h rfl rfl (pc2 := pc') ?_ (k2 hc')
    show (if 0 ≤ (pc : Int) + off then some (if y ≤ x then rx_nat pc off else pc + 3, r) else none) = _
    rw [if_pos ht.1, if_neg hc', ← h.2.2]
    rfl
theorem rq_icgt {off : Int} {tg : Nat} {x y : Int32} {r : List Value} (h : ri P mi pc (.if_icmp .gt off) pc') (ht : rtg pc off tg) (k1 : y < x → rq P mi F Lo cb sb tg lv r L Q) (k2 : ¬ y < x → rq P mi F Lo cb sb pc' lv r L Q) : rq P mi F Lo cb sb pc lv (.int y :: .int x :: r) L Q := by
  by_cases hc : y < x
  · refine rq_jmp h rfl rfl (pc2 := tg) ?_ (k1 hc)
    show (if 0 ≤ (pc : Int) + off then some (if y < x then rx_nat pc off else pc + 3, r) else none) = _
    rw [if_pos ht.1, if_pos hc, ht.2]
  · have hc' : ¬ y < x := hc
    refine rq_jmp h rfl rfl (pc2 := pc') ?_ (k2 hc')
    show (if 0 ≤ (pc : Int) + off then some (if y < x then rx_nat pc off else pc + 3, r) else none) = _
    rw [if_pos ht.1, if_neg hc', ← h.2.2]
    rfl
theorem rq_icle {off : Int} {tg : Nat} {x y : Int32} {r : List Value} (h : ri P mi pc (.if_icmp .le off) pc') (ht : rtg pc off tg) (k1 : x ≤ y → rq P mi F Lo cb sb tg lv r L Q) (k2 : ¬ x ≤ y → rq P mi F Lo cb sb pc' lv r L Q) : rq P mi F Lo cb sb pc lv (.int y :: .int x :: r) L Q := by
  by_cases hc : x ≤ y
  · refine rq_jmp h rfl rfl (pc2 := tg) ?_ (k1 hc)
    show (if 0 ≤ (pc : Int) + off then some (if x ≤ y then rx_nat pc off else pc + 3, r) else none) = _
    rw [if_pos ht.1, if_pos hc, ht.2]
  · have hc' : ¬ x ≤ y := hc
    refine rq_jmp h rfl rfl (pc2 := pc') ?_ (k2 hc')
    show (if 0 ≤ (pc : Int) + off then some (if x ≤ y then rx_nat pc off else pc + 3, r) else none) = _
    rw [if_pos ht.1, if_neg hc', ← h.2.2]
    rfl
/-- the heap -/
theorem rq_getf {idx ci k a : Nat} {fs : List Value} {v : Value} {r : List Value} (h : ri P mi pc (.getfield idx) pc') (hf : rx_ft P mi idx = some (ci, k)) (hL : L[a]? = some (.inr (ci, fs))) (hv : fs[k]? = some v) (kk : rq P mi F Lo cb sb pc' lv (v :: r) L Q) : rq P mi F Lo cb sb pc lv (.ref a :: r) L Q := by
  refine rq_heap h rfl rfl rfl ?_ kk
  unfold rx_heap
  simp only [hf, hL, hv, if_true]
theorem rq_putf {idx ci k a : Nat} {ty : FieldType} {fs : List Value} {v : Value} {r : List Value} (h : ri P mi pc (.putfield idx) pc') (hf : rx_pt P mi idx = some (ci, k, ty)) (hL : L[a]? = some (.inr (ci, fs))) (hk : Nat.blt k fs.length = true) (hn : narrow ty v = v) (hfit : fits ty v = true) (kk : rq P mi F Lo cb sb pc' lv r (L.set a (.inr (ci, fs.set k v))) Q) : rq P mi F Lo cb sb pc lv (v :: .ref a :: r) L Q := by
  refine rq_heap h rfl rfl rfl ?_ kk
  unfold rx_heap
  simp only [hf, hL]
  rw [if_pos ⟨trivial, Nat.blt_eq.mp hk, hn, hfit⟩]
theorem rq_iald {a n : Nat} {i : Int32} {f : Nat → Int32} {r : List Value} (h : ri P mi pc .iaload pc') (hL : L[a]? = some (.inl (0, n, .inl f))) (hi : ¬ (i < 0 ∨ n ≤ i.toNatClampNeg)) (kk : rq P mi F Lo cb sb pc' lv (.int (f i.toNatClampNeg) :: r) L Q) : rq P mi F Lo cb sb pc lv (.int i :: .ref a :: r) L Q := by
  refine rq_heap h rfl rfl rfl ?_ kk
  unfold rx_heap
  simp only [hL]
  rw [if_pos ⟨trivial, hi⟩]
theorem rq_sald {a n : Nat} {i : Int32} {f : Nat → Int32} {r : List Value} (h : ri P mi pc .iaload pc') (hL : L[a]? = none) (hc : rx_ci P a = some (n, f)) (hi : ¬ (i < 0 ∨ n ≤ i.toNatClampNeg)) (kk : rq P mi F Lo cb sb pc' lv (.int (f i.toNatClampNeg) :: r) L Q) : rq P mi F Lo cb sb pc lv (.int i :: .ref a :: r) L Q := by
  refine rq_heap h rfl rfl rfl ?_ kk
  unfold rx_heap
  simp only [hL, hc]
  rw [if_pos hi]
theorem rq_bald {a n t : Nat} {i : Int32} {f : Nat → Int32} {r : List Value} (h : ri P mi pc .baload pc') (hL : L[a]? = some (.inl (t, n, .inl f))) (ht : t = 2 ∨ t = 3) (hi : ¬ (i < 0 ∨ n ≤ i.toNatClampNeg)) (kk : rq P mi F Lo cb sb pc' lv (.int (f i.toNatClampNeg) :: r) L Q) : rq P mi F Lo cb sb pc lv (.int i :: .ref a :: r) L Q := by
  refine rq_heap h rfl rfl rfl ?_ kk
  unfold rx_heap
  simp only [hL]
  rw [if_pos ⟨ht, hi⟩]
theorem rq_lald {a n : Nat} {i : Int32} {f : Nat → Int64} {r : List Value} (h : ri P mi pc .laload pc') (hL : L[a]? = some (.inl (1, n, .inr (.inl f)))) (hi : ¬ (i < 0 ∨ n ≤ i.toNatClampNeg)) (kk : rq P mi F Lo cb sb pc' lv (.long (f i.toNatClampNeg) :: r) L Q) : rq P mi F Lo cb sb pc lv (.int i :: .ref a :: r) L Q := by
  refine rq_heap h rfl rfl rfl ?_ kk
  unfold rx_heap
  simp only [hL]
  rw [if_pos ⟨trivial, hi⟩]
theorem rq_aald {a n t k : Nat} {i : Int32} {f : Nat → Option Nat} {r : List Value} (h : ri P mi pc .aaload pc') (hL : L[a]? = some (.inl (t, n, .inr (.inr (.inr (.inr f)))))) (ht : 4 ≤ t ∧ t < 7) (hi : ¬ (i < 0 ∨ n ≤ i.toNatClampNeg)) (hk : f i.toNatClampNeg = some k) (kk : rq P mi F Lo cb sb pc' lv (.ref k :: r) L Q) : rq P mi F Lo cb sb pc lv (.int i :: .ref a :: r) L Q := by
  refine rq_heap h rfl rfl rfl ?_ kk
  unfold rx_heap
  simp only [hL]
  rw [if_pos ⟨ht.1, ht.2, hi⟩, hk]
  rfl
theorem rq_iast {a n : Nat} {i x : Int32} {f : Nat → Int32} {r : List Value} (h : ri P mi pc .iastore pc') (hL : L[a]? = some (.inl (0, n, .inl f))) (hi : ¬ (i < 0 ∨ n ≤ i.toNatClampNeg)) (kk : rq P mi F Lo cb sb pc' lv r (L.set a (.inl (0, n, .inl (upd f i.toNatClampNeg x)))) Q) : rq P mi F Lo cb sb pc lv (.int x :: .int i :: .ref a :: r) L Q := by
  refine rq_heap h rfl rfl rfl ?_ kk
  unfold rx_heap
  simp only [hL]
  rw [if_pos ⟨trivial, hi⟩]
theorem rq_bast {a n : Nat} {i x : Int32} {f : Nat → Int32} {r : List Value} (h : ri P mi pc .bastore pc') (hL : L[a]? = some (.inl (2, n, .inl f))) (hi : ¬ (i < 0 ∨ n ≤ i.toNatClampNeg)) (kk : rq P mi F Lo cb sb pc' lv r (L.set a (.inl (2, n, .inl (upd f i.toNatClampNeg (vp_nar .byte x))))) Q) : rq P mi F Lo cb sb pc lv (.int x :: .int i :: .ref a :: r) L Q := by
  refine rq_heap h rfl rfl rfl ?_ kk
  unfold rx_heap
  simp only [hL]
  rw [if_pos ⟨trivial, hi⟩]
theorem rq_zast {a n : Nat} {i x : Int32} {f : Nat → Int32} {r : List Value} (h : ri P mi pc .bastore pc') (hL : L[a]? = some (.inl (3, n, .inl f))) (hi : ¬ (i < 0 ∨ n ≤ i.toNatClampNeg)) (kk : rq P mi F Lo cb sb pc' lv r (L.set a (.inl (3, n, .inl (upd f i.toNatClampNeg (vp_nar .boolean x))))) Q) : rq P mi F Lo cb sb pc lv (.int x :: .int i :: .ref a :: r) L Q := by
  refine rq_heap h rfl rfl rfl ?_ kk
  unfold rx_heap
  simp only [hL]
  rw [if_neg (fun q => by cases q.1), if_pos ⟨trivial, hi⟩]
theorem rq_last {a n : Nat} {i : Int32} {x : Int64} {f : Nat → Int64} {r : List Value} (h : ri P mi pc .lastore pc') (hL : L[a]? = some (.inl (1, n, .inr (.inl f)))) (hi : ¬ (i < 0 ∨ n ≤ i.toNatClampNeg)) (kk : rq P mi F Lo cb sb pc' lv r (L.set a (.inl (1, n, .inr (.inl (vp_updL f i.toNatClampNeg x))))) Q) : rq P mi F Lo cb sb pc lv (.long x :: .int i :: .ref a :: r) L Q := by
  refine rq_heap h rfl rfl rfl ?_ kk
  unfold rx_heap
  simp only [hL]
  rw [if_pos ⟨trivial, hi⟩]
theorem rq_alen {a n t : Nat} {x : rx_Ar} {r : List Value} (h : ri P mi pc .arraylength pc') (hL : L[a]? = some (.inl (t, n, x))) (ht : t < 7) (kk : rq P mi F Lo cb sb pc' lv (.int (Int32.ofNat n) :: r) L Q) : rq P mi F Lo cb sb pc lv (.ref a :: r) L Q := by
  refine rq_heap h rfl rfl rfl ?_ kk
  unfold rx_heap
  simp only [hL]
  rw [if_pos ht]
theorem rq_slen {a n : Nat} {f : Nat → Int32} {r : List Value} (h : ri P mi pc .arraylength pc') (hL : L[a]? = none) (hc : rx_ci P a = some (n, f)) (kk : rq P mi F Lo cb sb pc' lv (.int (Int32.ofNat n) :: r) L Q) : rq P mi F Lo cb sb pc lv (.ref a :: r) L Q := by
  refine rq_heap h rfl rfl rfl ?_ kk
  unfold rx_heap
  simp only [hL, hc]
theorem rq_ldc {idx : Nat} {v : Int32} (h : ri P mi pc (.ldc idx) pc') (hk : rx_kt P mi idx = some (.int v)) (kk : rq P mi F Lo cb sb pc' lv (.int v :: st) L Q) : rq P mi F Lo cb sb pc lv st L Q := by
  refine rq_heap h rfl rfl rfl ?_ kk
  unfold rx_heap
  simp only [hk]
theorem rq_ldcw {idx : Nat} {v : Int32} (h : ri P mi pc (.ldc_w idx) pc') (hk : rx_kt P mi idx = some (.int v)) (kk : rq P mi F Lo cb sb pc' lv (.int v :: st) L Q) : rq P mi F Lo cb sb pc lv st L Q := by
  refine rq_heap h rfl rfl rfl ?_ kk
  unfold rx_heap
  simp only [hk]
theorem rq_ldcl {idx : Nat} {v : Int64} (h : ri P mi pc (.ldc2_w idx) pc') (hk : rx_kt P mi idx = some (.long v)) (kk : rq P mi F Lo cb sb pc' lv (.long v :: st) L Q) : rq P mi F Lo cb sb pc lv st L Q := by
  refine rq_heap h rfl rfl rfl ?_ kk
  unfold rx_heap
  simp only [hk]
/-- returns -/
theorem rq_iret {v : Int32} {ty : FieldType} (h : ri P mi pc .ireturn pc') (hr : rx_rt P mi = some ty) (hn : narrow ty (.int v) = .int v) (k : Q (.inl (some (.int v))) L) : rq P mi F Lo cb sb pc lv [.int v] L Q := by
  refine rq_ret h rfl rfl rfl rfl ?_ k
  unfold rx_ret
  rw [hr]
  simp only
  rw [if_pos hn]
theorem rq_lret {v : Int64} (h : ri P mi pc .lreturn pc') (hr : rx_rt P mi = some .long) (k : Q (.inl (some (.long v))) L) : rq P mi F Lo cb sb pc lv [.long v] L Q := by
  refine rq_ret h rfl rfl rfl rfl ?_ k
  unfold rx_ret
  rw [hr]
theorem rq_vret (h : ri P mi pc .return_ pc') (hr : rx_rt P mi = none) (k : Q (.inl none) L) : rq P mi F Lo cb sb pc lv [] L Q := by
  refine rq_ret h rfl rfl rfl rfl ?_ k
  unfold rx_ret
  rw [hr]
theorem rq_aret {a : Nat} {C : String} (h : ri P mi pc .areturn pc') (hr : rx_rt P mi = some (.object C)) (k : Q (.inl (some (.ref a))) L) : rq P mi F Lo cb sb pc lv [.ref a] L Q := by
  refine rq_ret h rfl rfl rfl rfl ?_ k
  unfold rx_ret
  rw [hr]
/-- calls -/
def rq_cc (P : rx_P) (mj : Nat) (as rest : List Value) : Bool := Nat.ble (rx_words rest) 8 && Nat.ble (lg_sl as).length (rx_ml P mj)
/-- what comes behind a call -/
def rq_af (P : rx_P) (th : Bool) (mi F Lo cb sb pc pc' : Nat) (lv : rx_L) (rest : List Value) (Q : ((Option Value) ⊕ String) → List va_E → Prop) (o : (Option Value) ⊕ String) (L1 : List va_E) : Prop := match o with
  | .inl v => rq P mi F Lo cb sb pc' lv (v.toList ++ rest) L1 Q
  | .inr E => th = true ∧ match rx_ht P mi pc E with
    | some (hpc, k) => rq P mi F Lo cb sb (hpc + 1) (rx_rm lv k) [] L1 Q
    | none => rx_hh P mi = [] ∧ Q (.inr E) L1
theorem rq_inv {th : Bool} {mj c1 s1 : Nat} {as rest : List Value} (hF : 1 ≤ F) (hLo : rx_ml P mj + 19 ≤ Lo) (hc : rq_cc P mj as rest = true) (hpc : pc + 3 = pc') (hcb : c1 + cb ≤ c1 + cb)
    (k : rq P mj (F - 1) (Lo - (rx_ml P mj + 19)) c1 s1 0 (lv_args 0 as) [] L (rq_af P th mi F Lo cb sb pc pc' lv rest Q)) :
    ∃ f o L2 c n, rx_inv P (rx_run P f) th mi F Lo pc lv mj as rest L = some (o, L2, c, n) ∧ c ≤ c1 + cb ∧ n ≤ s1 + sb ∧ Q o L2 := by
  obtain ⟨o, L1, c, n, ⟨f, hf⟩, h2, h3, h4⟩ := k
  unfold rq_cc at hc
  rw [Bool.and_eq_true] at hc
  have hcond : 1 ≤ F ∧ rx_ml P mj + 19 ≤ Lo ∧ rx_words rest ≤ 8 ∧ (lg_sl as).length ≤ rx_ml P mj := ⟨hF, hLo, Nat.le_of_ble_eq_true hc.1, Nat.le_of_ble_eq_true hc.2⟩
  subst hpc
  cases o with
  | inl v =>
    obtain ⟨o2, L2, c2, n2, ⟨g, hg⟩, g2, g3, g4⟩ := h4
    refine ⟨max f g, o2, L2, c + c2, n + n2, ?_, by omega, by omega, g4⟩
    unfold rx_inv
    rw [if_pos hcond, rv_le (Nat.le_max_left f g) hf]
    simp only []
    rw [rv_le (Nat.le_max_right f g) hg]
    rfl
  | inr E =>
    obtain ⟨rfl, h4⟩ := h4
    cases hh : rx_ht P mi pc E with
    | none =>
      rw [hh] at h4
      refine ⟨f, .inr E, L1, c, n, ?_, by omega, by omega, h4.2⟩
      unfold rx_inv
      rw [if_pos hcond, hf]
      simp only [hh]
      rw [if_pos trivial, if_pos h4.1]
    | some q =>
      rw [hh] at h4
      obtain ⟨o2, L2, c2, n2, ⟨g, hg⟩, g2, g3, g4⟩ := h4
      refine ⟨max f g, o2, L2, c + c2, n + n2, ?_, by omega, by omega, g4⟩
      unfold rx_inv
      rw [if_pos hcond, rv_le (Nat.le_max_left f g) hf]
      simp only [hh]
      rw [if_pos trivial, rv_le (Nat.le_max_right f g) hg]
      rfl
theorem rq_V {idx mj n b c1 s1 : Nat} {as rest : List Value} (h : ri P mi pc (.invokevirtual idx) pc') (hct : rx_ct P mi idx = some (0, mj, n)) (htk : rx_take n st = some (as, .ref b :: rest)) (hisa : rx_isa P L b (rx_yn P mj).cls = true) (hF : 1 ≤ F) (hLo : rx_ml P mj + 19 ≤ Lo) (hc : rq_cc P mj (.ref b :: as) rest = true)
    (k : rq P mj (F - 1) (Lo - (rx_ml P mj + 19)) c1 s1 0 (lv_args 0 (.ref b :: as)) [] L (rq_af P true mi F Lo cb sb pc pc' lv rest Q)) : rq P mi F Lo (c1 + cb) (s1 + sb) pc lv st L Q := by
  obtain ⟨f, o, L2, c, n', hr, h2, h3, h4⟩ := rq_inv (th := true) hF hLo hc h.2.2 (Nat.le_refl _) k
  refine ⟨o, L2, c, n', ⟨f + 1, ?_⟩, h2, h3, h4⟩
  show rx_go P (rx_run P f) mi F Lo pc lv st L = some _
  unfold rx_go
  rw [h.1, h.2.1]
  show rx_call P (rx_run P f) mi F Lo pc lv st L (.invokevirtual idx) = _
  unfold rx_call
  simp only [hct, htk]
  rw [if_pos ⟨trivial, hisa⟩]
  exact hr
theorem rq_S {idx kd mj n c1 s1 : Nat} {as rest : List Value} (h : ri P mi pc (.invokestatic idx) pc') (hct : rx_ct P mi idx = some (kd, mj, n)) (hkd : kd = 1 ∨ kd = 3) (htk : rx_take n st = some (as, rest)) (hF : 1 ≤ F) (hLo : rx_ml P mj + 19 ≤ Lo) (hc : rq_cc P mj as rest = true)
    (k : rq P mj (F - 1) (Lo - (rx_ml P mj + 19)) c1 s1 0 (lv_args 0 as) [] L (rq_af P true mi F Lo cb sb pc pc' lv rest Q)) : rq P mi F Lo (c1 + cb) (s1 + sb) pc lv st L Q := by
  obtain ⟨f, o, L2, c, n', hr, h2, h3, h4⟩ := rq_inv (th := true) hF hLo hc h.2.2 (Nat.le_refl _) k
  refine ⟨o, L2, c, n', ⟨f + 1, ?_⟩, h2, h3, h4⟩
  show rx_go P (rx_run P f) mi F Lo pc lv st L = some _
  unfold rx_go
  rw [h.1, h.2.1]
  show rx_call P (rx_run P f) mi F Lo pc lv st L (.invokestatic idx) = _
  unfold rx_call
  simp only [hct, htk]
  rw [if_pos hkd]
  exact hr
theorem rq_SN {idx mj n c1 s1 : Nat} {as rest : List Value} (h : ri P mi pc (.invokestatic idx) pc') (hct : rx_ct P mi idx = some (11, mj, n)) (htk : rx_take n st = some (as, rest)) (hF : 1 ≤ F) (hLo : rx_ml P mj + 19 ≤ Lo) (hc : rq_cc P mj as rest = true)
    (k : rq P mj (F - 1) (Lo - (rx_ml P mj + 19)) c1 s1 0 (lv_args 0 as) [] L (rq_af P false mi F Lo cb sb pc pc' lv rest Q)) : rq P mi F Lo (c1 + cb) (s1 + sb) pc lv st L Q := by
  obtain ⟨f, o, L2, c, n', hr, h2, h3, h4⟩ := rq_inv (th := false) hF hLo hc h.2.2 (Nat.le_refl _) k
  refine ⟨o, L2, c, n', ⟨f + 1, ?_⟩, h2, h3, h4⟩
  show rx_go P (rx_run P f) mi F Lo pc lv st L = some _
  unfold rx_go
  rw [h.1, h.2.1]
  show rx_call P (rx_run P f) mi F Lo pc lv st L (.invokestatic idx) = _
  unfold rx_call
  simp only [hct, htk]
  rw [if_neg (by omega), if_pos trivial]
  exact hr
/-- the callee's end, behind it the caller -/
theorem rq_back {th : Bool} {v : Option Value} {rest : List Value} {L1 : List va_E} (k : rq P mi F Lo cb sb pc' lv (v.toList ++ rest) L1 Q) : rq_af P th mi F Lo cb sb pc pc' lv rest Q (.inl v) L1 := k
theorem rq_up {E : String} {rest : List Value} {L1 : List va_E} (hh : rx_ht P mi pc E = none) (h0 : rx_hh P mi = []) (k : Q (.inr E) L1) : rq_af P true mi F Lo cb sb pc pc' lv rest Q (.inr E) L1 := by
  refine ⟨rfl, ?_⟩
  rw [hh]
  exact ⟨h0, k⟩
theorem rq_catch {E : String} {rest : List Value} {L1 : List va_E} {hpc : Nat} {k' : Fin 4} (hh : rx_ht P mi pc E = some (hpc, k')) (k : rq P mi F Lo cb sb (hpc + 1) (rx_rm lv k') [] L1 Q) : rq_af P true mi F Lo cb sb pc pc' lv rest Q (.inr E) L1 := by
  refine ⟨rfl, ?_⟩
  rw [hh]
  exact k
end RQ
