/-! RUNS THAT MAKE NO CELL but for what they throw: the rules of parts 23 to 25, by wip/whole/mkrs.py -/
section RS
variable {P : rx_P} {mi F Lo pc pc' : Nat} {lv : rx_L} {st : List Value} {L : List va_E} {Q : ((Option Value) ⊕ String) → List va_E → Prop}
def rs_b : ((Option Value) ⊕ String) → Nat → Nat → Prop
  | .inl _, c, n => c = 0 ∧ n = 0
  | .inr _, c, n => c ≤ 1 ∧ n ≤ 6
/-- from here the run ends, with Q; it makes nothing, but one exception if it throws -/
def rs (P : rx_P) (mi F Lo pc : Nat) (lv : rx_L) (st : List Value) (L : List va_E) (Q : ((Option Value) ⊕ String) → List va_E → Prop) : Prop := ∃ o L2 c n, rv P mi F Lo pc lv st L (o, L2, c, n) ∧ rs_b o c n ∧ Q o L2
/-- as a run with its cells counted -/
theorem rs_rq {cb sb : Nat} (h : rs P mi F Lo pc lv st L Q) (hc : 1 ≤ cb) (hs : 6 ≤ sb) : rq P mi F Lo cb sb pc lv st L Q := by
  obtain ⟨o, L2, c, n, h1, h2, h3⟩ := h
  cases o with
  | inl v => exact ⟨_, L2, c, n, h1, by have := h2.1; omega, by have := h2.2; omega, h3⟩
  | inr E => exact ⟨_, L2, c, n, h1, by have := h2.1; omega, by have := h2.2; omega, h3⟩
theorem rs_mono {Q' : ((Option Value) ⊕ String) → List va_E → Prop} (h : rs P mi F Lo pc lv st L Q) (hQ : ∀ o L1, Q o L1 → Q' o L1) : rs P mi F Lo pc lv st L Q' := by
  obtain ⟨o, L2, c, n, h1, h2, h4⟩ := h
  exact ⟨o, L2, c, n, h1, h2, hQ _ _ h4⟩
theorem rs_pure {ins : Instr} {st' : List Value} (h : ri P mi pc ins pc') (e : rx_pure ins st = some st') (k : rs P mi F Lo pc' lv st' L Q) : rs P mi F Lo pc lv st L Q := by
  obtain ⟨o, L2, c, n, h1, h2⟩ := k
  obtain ⟨hx, hc, rfl⟩ := h
  exact ⟨o, L2, c, n, rv_pure hx hc e h1, h2⟩
theorem rs_loc {ins : Instr} {lv' : rx_L} {st' : List Value} (h : ri P mi pc ins pc') (e0 : rx_pure ins st = none) (e : rx_loc ins (rx_ml P mi) lv st = some (lv', st')) (k : rs P mi F Lo pc' lv' st' L Q) : rs P mi F Lo pc lv st L Q := by
  obtain ⟨o, L2, c, n, h1, h2⟩ := k
  obtain ⟨hx, hc, rfl⟩ := h
  exact ⟨o, L2, c, n, rv_loc hx hc e0 e h1, h2⟩
theorem rs_jmp {ins : Instr} {pc2 : Nat} {st' : List Value} (h : ri P mi pc ins pc') (e0 : rx_pure ins st = none) (e1 : rx_loc ins (rx_ml P mi) lv st = none) (e : rx_jmp ins pc st = some (pc2, st')) (k : rs P mi F Lo pc2 lv st' L Q) : rs P mi F Lo pc lv st L Q := by
  obtain ⟨o, L2, c, n, h1, h2⟩ := k
  exact ⟨o, L2, c, n, rv_jmp h.1 h.2.1 e0 e1 e h1, h2⟩
theorem rs_heap {ins : Instr} {st' : List Value} {L' : List va_E} (h : ri P mi pc ins pc') (e0 : rx_pure ins st = none) (e1 : rx_loc ins (rx_ml P mi) lv st = none) (e2 : rx_jmp ins pc st = none) (e : rx_heap P mi ins st L = some (st', L', 0, 0)) (k : rs P mi F Lo pc' lv st' L' Q) : rs P mi F Lo pc lv st L Q := by
  obtain ⟨o, L2, c, n, h1, h2, h3⟩ := k
  obtain ⟨hx, hc, rfl⟩ := h
  have := rv_heap hx hc e0 e1 e2 e h1
  rw [Nat.zero_add, Nat.zero_add] at this
  exact ⟨o, L2, c, n, this, h2, h3⟩
theorem rs_ret {ins : Instr} {v : Option Value} (h : ri P mi pc ins pc') (e0 : rx_pure ins st = none) (e1 : rx_loc ins (rx_ml P mi) lv st = none) (e2 : rx_jmp ins pc st = none) (e3 : rx_heap P mi ins st L = none) (e : rx_ret ins st (rx_rt P mi) = some v) (k : Q (.inl v) L) : rs P mi F Lo pc lv st L Q :=
  ⟨_, _, _, _, rv_ret h.1 h.2.1 e0 e1 e2 e3 e, ⟨rfl, rfl⟩, k⟩
theorem rs_throw {E : String} {nf nl : Nat} (hx : rx_xt P mi pc = some (E, nf, nl)) (h1 : nf < F) (h2 : nl ≤ Lo) (k : Q (.inr E) L) : rs P mi F Lo pc lv [] L Q :=
  ⟨_, _, _, _, rv_throw hx h1 h2, ⟨Nat.le_refl _, Nat.le_refl _⟩, k⟩
theorem rs_goto {off : Int} {tg : Nat} (h : ri P mi pc (.goto off) pc') (ht : rtg pc off tg) (k : rs P mi F Lo tg lv st L Q) : rs P mi F Lo pc lv st L Q := by
  refine rs_jmp h rfl rfl (pc2 := tg) ?_ k
  show (if 0 ≤ (pc : Int) + off then some (rx_nat pc off, st) else none) = _
  rw [if_pos ht.1, ht.2]
theorem rs_ifeq {off : Int} {tg : Nat} {x : Int32} {r : List Value} (h : ri P mi pc (.ifCond .eq off) pc') (ht : rtg pc off tg) (k1 : x = 0 → rs P mi F Lo tg lv r L Q) (k2 : ¬ x = 0 → rs P mi F Lo pc' lv r L Q) : rs P mi F Lo pc lv (.int x :: r) L Q := by
  by_cases hc : x = 0
  · refine rs_jmp h rfl rfl (pc2 := tg) ?_ (k1 hc)
    show (if 0 ≤ (pc : Int) + off then some (if x = 0 then rx_nat pc off else pc + 3, r) else none) = _
    rw [if_pos ht.1, if_pos hc, ht.2]
  · have hc' : ¬ x = 0 := hc
    refine rs_jmp h rfl rfl (pc2 := pc') ?_ (k2 hc')
    show (if 0 ≤ (pc : Int) + off then some (if x = 0 then rx_nat pc off else pc + 3, r) else none) = _
    rw [if_pos ht.1, if_neg hc', ← h.2.2]
    rfl
theorem rs_ifne {off : Int} {tg : Nat} {x : Int32} {r : List Value} (h : ri P mi pc (.ifCond .ne off) pc') (ht : rtg pc off tg) (k1 : ¬ x = 0 → rs P mi F Lo tg lv r L Q) (k2 : x = 0 → rs P mi F Lo pc' lv r L Q) : rs P mi F Lo pc lv (.int x :: r) L Q := by
  by_cases hc : ¬ x = 0
  · refine rs_jmp h rfl rfl (pc2 := tg) ?_ (k1 hc)
    show (if 0 ≤ (pc : Int) + off then some (if x = 0 then pc + 3 else rx_nat pc off, r) else none) = _
    rw [if_pos ht.1, if_neg hc, ht.2]
  · have hc' : x = 0 := Decidable.not_not.mp hc
    refine rs_jmp h rfl rfl (pc2 := pc') ?_ (k2 hc')
    show (if 0 ≤ (pc : Int) + off then some (if x = 0 then pc + 3 else rx_nat pc off, r) else none) = _
    rw [if_pos ht.1, if_pos hc', ← h.2.2]
    rfl
theorem rs_iflt {off : Int} {tg : Nat} {x : Int32} {r : List Value} (h : ri P mi pc (.ifCond .lt off) pc') (ht : rtg pc off tg) (k1 : x < 0 → rs P mi F Lo tg lv r L Q) (k2 : ¬ x < 0 → rs P mi F Lo pc' lv r L Q) : rs P mi F Lo pc lv (.int x :: r) L Q := by
  by_cases hc : x < 0
  · refine rs_jmp h rfl rfl (pc2 := tg) ?_ (k1 hc)
    show (if 0 ≤ (pc : Int) + off then some (if x < 0 then rx_nat pc off else pc + 3, r) else none) = _
    rw [if_pos ht.1, if_pos hc, ht.2]
  · have hc' : ¬ x < 0 := hc
    refine rs_jmp h rfl rfl (pc2 := pc') ?_ (k2 hc')
    show (if 0 ≤ (pc : Int) + off then some (if x < 0 then rx_nat pc off else pc + 3, r) else none) = _
    rw [if_pos ht.1, if_neg hc', ← h.2.2]
    rfl
theorem rs_ifge {off : Int} {tg : Nat} {x : Int32} {r : List Value} (h : ri P mi pc (.ifCond .ge off) pc') (ht : rtg pc off tg) (k1 : 0 ≤ x → rs P mi F Lo tg lv r L Q) (k2 : ¬ 0 ≤ x → rs P mi F Lo pc' lv r L Q) : rs P mi F Lo pc lv (.int x :: r) L Q := by
  by_cases hc : 0 ≤ x
  · refine rs_jmp h rfl rfl (pc2 := tg) ?_ (k1 hc)
    show (if 0 ≤ (pc : Int) + off then some (if 0 ≤ x then rx_nat pc off else pc + 3, r) else none) = _
    rw [if_pos ht.1, if_pos hc, ht.2]
  · have hc' : ¬ 0 ≤ x := hc
    refine rs_jmp h rfl rfl (pc2 := pc') ?_ (k2 hc')
    show (if 0 ≤ (pc : Int) + off then some (if 0 ≤ x then rx_nat pc off else pc + 3, r) else none) = _
    rw [if_pos ht.1, if_neg hc', ← h.2.2]
    rfl
theorem rs_ifgt {off : Int} {tg : Nat} {x : Int32} {r : List Value} (h : ri P mi pc (.ifCond .gt off) pc') (ht : rtg pc off tg) (k1 : 0 < x → rs P mi F Lo tg lv r L Q) (k2 : ¬ 0 < x → rs P mi F Lo pc' lv r L Q) : rs P mi F Lo pc lv (.int x :: r) L Q := by
  by_cases hc : 0 < x
  · refine rs_jmp h rfl rfl (pc2 := tg) ?_ (k1 hc)
    show (if 0 ≤ (pc : Int) + off then some (if 0 < x then rx_nat pc off else pc + 3, r) else none) = _
    rw [if_pos ht.1, if_pos hc, ht.2]
  · have hc' : ¬ 0 < x := hc
    refine rs_jmp h rfl rfl (pc2 := pc') ?_ (k2 hc')
    show (if 0 ≤ (pc : Int) + off then some (if 0 < x then rx_nat pc off else pc + 3, r) else none) = _
    rw [if_pos ht.1, if_neg hc', ← h.2.2]
    rfl
theorem rs_ifle {off : Int} {tg : Nat} {x : Int32} {r : List Value} (h : ri P mi pc (.ifCond .le off) pc') (ht : rtg pc off tg) (k1 : x ≤ 0 → rs P mi F Lo tg lv r L Q) (k2 : ¬ x ≤ 0 → rs P mi F Lo pc' lv r L Q) : rs P mi F Lo pc lv (.int x :: r) L Q := by
  by_cases hc : x ≤ 0
  · refine rs_jmp h rfl rfl (pc2 := tg) ?_ (k1 hc)
    show (if 0 ≤ (pc : Int) + off then some (if x ≤ 0 then rx_nat pc off else pc + 3, r) else none) = _
    rw [if_pos ht.1, if_pos hc, ht.2]
  · have hc' : ¬ x ≤ 0 := hc
    refine rs_jmp h rfl rfl (pc2 := pc') ?_ (k2 hc')
    show (if 0 ≤ (pc : Int) + off then some (if x ≤ 0 then rx_nat pc off else pc + 3, r) else none) = _
    rw [if_pos ht.1, if_neg hc', ← h.2.2]
    rfl
theorem rs_iceq {off : Int} {tg : Nat} {x y : Int32} {r : List Value} (h : ri P mi pc (.if_icmp .eq off) pc') (ht : rtg pc off tg) (k1 : x = y → rs P mi F Lo tg lv r L Q) (k2 : ¬ x = y → rs P mi F Lo pc' lv r L Q) : rs P mi F Lo pc lv (.int y :: .int x :: r) L Q := by
  by_cases hc : x = y
  · refine rs_jmp h rfl rfl (pc2 := tg) ?_ (k1 hc)
    show (if 0 ≤ (pc : Int) + off then some (if x = y then rx_nat pc off else pc + 3, r) else none) = _
    rw [if_pos ht.1, if_pos hc, ht.2]
  · have hc' : ¬ x = y := hc
    refine rs_jmp h rfl rfl (pc2 := pc') ?_ (k2 hc')
    show (if 0 ≤ (pc : Int) + off then some (if x = y then rx_nat pc off else pc + 3, r) else none) = _
    rw [if_pos ht.1, if_neg hc', ← h.2.2]
    rfl
theorem rs_icne {off : Int} {tg : Nat} {x y : Int32} {r : List Value} (h : ri P mi pc (.if_icmp .ne off) pc') (ht : rtg pc off tg) (k1 : ¬ x = y → rs P mi F Lo tg lv r L Q) (k2 : x = y → rs P mi F Lo pc' lv r L Q) : rs P mi F Lo pc lv (.int y :: .int x :: r) L Q := by
  by_cases hc : ¬ x = y
  · refine rs_jmp h rfl rfl (pc2 := tg) ?_ (k1 hc)
    show (if 0 ≤ (pc : Int) + off then some (if x = y then pc + 3 else rx_nat pc off, r) else none) = _
    rw [if_pos ht.1, if_neg hc, ht.2]
  · have hc' : x = y := Decidable.not_not.mp hc
    refine rs_jmp h rfl rfl (pc2 := pc') ?_ (k2 hc')
    show (if 0 ≤ (pc : Int) + off then some (if x = y then pc + 3 else rx_nat pc off, r) else none) = _
    rw [if_pos ht.1, if_pos hc', ← h.2.2]
    rfl
theorem rs_iclt {off : Int} {tg : Nat} {x y : Int32} {r : List Value} (h : ri P mi pc (.if_icmp .lt off) pc') (ht : rtg pc off tg) (k1 : x < y → rs P mi F Lo tg lv r L Q) (k2 : ¬ x < y → rs P mi F Lo pc' lv r L Q) : rs P mi F Lo pc lv (.int y :: .int x :: r) L Q := by
  by_cases hc : x < y
  · refine rs_jmp h rfl rfl (pc2 := tg) ?_ (k1 hc)
    show (if 0 ≤ (pc : Int) + off then some (if x < y then rx_nat pc off else pc + 3, r) else none) = _
    rw [if_pos ht.1, if_pos hc, ht.2]
  · have hc' : ¬ x < y := hc
    refine rs_jmp h rfl rfl (pc2 := pc') ?_ (k2 hc')
    show (if 0 ≤ (pc : Int) + off then some (if x < y then rx_nat pc off else pc + 3, r) else none) = _
    rw [if_pos ht.1, if_neg hc', ← h.2.2]
    rfl
theorem rs_icge {off : Int} {tg : Nat} {x y : Int32} {r : List Value} (h : ri P mi pc (.if_icmp .ge off) pc') (ht : rtg pc off tg) (k1 : y ≤ x → rs P mi F Lo tg lv r L Q) (k2 : ¬ y ≤ x → rs P mi F Lo pc' lv r L Q) : rs P mi F Lo pc lv (.int y :: .int x :: r) L Q := by
  by_cases hc : y ≤ x
  · refine rs_jmp h rfl rfl (pc2 := tg) ?_ (k1 hc)
    show (if 0 ≤ (pc : Int) + off then some (if y ≤ x then rx_nat pc off else pc + 3, r) else none) = _
    rw [if_pos ht.1, if_pos hc, ht.2]
  · have hc' : ¬ y ≤ x := hc
    refine rs_jmp h rfl rfl (pc2 := pc') ?_ (k2 hc')
    show (if 0 ≤ (pc : Int) + off then some (if y ≤ x then rx_nat pc off else pc + 3, r) else none) = _
    rw [if_pos ht.1, if_neg hc', ← h.2.2]
    rfl
theorem rs_icgt {off : Int} {tg : Nat} {x y : Int32} {r : List Value} (h : ri P mi pc (.if_icmp .gt off) pc') (ht : rtg pc off tg) (k1 : y < x → rs P mi F Lo tg lv r L Q) (k2 : ¬ y < x → rs P mi F Lo pc' lv r L Q) : rs P mi F Lo pc lv (.int y :: .int x :: r) L Q := by
  by_cases hc : y < x
  · refine rs_jmp h rfl rfl (pc2 := tg) ?_ (k1 hc)
    show (if 0 ≤ (pc : Int) + off then some (if y < x then rx_nat pc off else pc + 3, r) else none) = _
    rw [if_pos ht.1, if_pos hc, ht.2]
  · have hc' : ¬ y < x := hc
    refine rs_jmp h rfl rfl (pc2 := pc') ?_ (k2 hc')
    show (if 0 ≤ (pc : Int) + off then some (if y < x then rx_nat pc off else pc + 3, r) else none) = _
    rw [if_pos ht.1, if_neg hc', ← h.2.2]
    rfl
theorem rs_icle {off : Int} {tg : Nat} {x y : Int32} {r : List Value} (h : ri P mi pc (.if_icmp .le off) pc') (ht : rtg pc off tg) (k1 : x ≤ y → rs P mi F Lo tg lv r L Q) (k2 : ¬ x ≤ y → rs P mi F Lo pc' lv r L Q) : rs P mi F Lo pc lv (.int y :: .int x :: r) L Q := by
  by_cases hc : x ≤ y
  · refine rs_jmp h rfl rfl (pc2 := tg) ?_ (k1 hc)
    show (if 0 ≤ (pc : Int) + off then some (if x ≤ y then rx_nat pc off else pc + 3, r) else none) = _
    rw [if_pos ht.1, if_pos hc, ht.2]
  · have hc' : ¬ x ≤ y := hc
    refine rs_jmp h rfl rfl (pc2 := pc') ?_ (k2 hc')
    show (if 0 ≤ (pc : Int) + off then some (if x ≤ y then rx_nat pc off else pc + 3, r) else none) = _
    rw [if_pos ht.1, if_neg hc', ← h.2.2]
    rfl
theorem rs_getf {idx ci k a : Nat} {fs : List Value} {v : Value} {r : List Value} (h : ri P mi pc (.getfield idx) pc') (hf : rx_ft P mi idx = some (ci, k)) (hL : L[a]? = some (.inr (ci, fs))) (hv : fs[k]? = some v) (kk : rs P mi F Lo pc' lv (v :: r) L Q) : rs P mi F Lo pc lv (.ref a :: r) L Q := by
  refine rs_heap h rfl rfl rfl ?_ kk
  unfold rx_heap
  simp only [hf, hL, hv, if_true]
theorem rs_putf {idx ci k a : Nat} {ty : FieldType} {fs : List Value} {v : Value} {r : List Value} (h : ri P mi pc (.putfield idx) pc') (hf : rx_pt P mi idx = some (ci, k, ty)) (hL : L[a]? = some (.inr (ci, fs))) (hk : Nat.blt k fs.length = true) (hn : narrow ty v = v) (hfit : fits ty v = true) (kk : rs P mi F Lo pc' lv r (L.set a (.inr (ci, fs.set k v))) Q) : rs P mi F Lo pc lv (v :: .ref a :: r) L Q := by
  refine rs_heap h rfl rfl rfl ?_ kk
  unfold rx_heap
  simp only [hf, hL]
  rw [if_pos ⟨trivial, Nat.blt_eq.mp hk, hn, hfit⟩]
theorem rs_iald {a n : Nat} {i : Int32} {f : Nat → Int32} {r : List Value} (h : ri P mi pc .iaload pc') (hL : L[a]? = some (.inl (0, n, .inl f))) (hi : ¬ (i < 0 ∨ n ≤ i.toNatClampNeg)) (kk : rs P mi F Lo pc' lv (.int (f i.toNatClampNeg) :: r) L Q) : rs P mi F Lo pc lv (.int i :: .ref a :: r) L Q := by
  refine rs_heap h rfl rfl rfl ?_ kk
  unfold rx_heap
  simp only [hL]
  rw [if_pos ⟨trivial, hi⟩]
theorem rs_sald {a n : Nat} {i : Int32} {f : Nat → Int32} {r : List Value} (h : ri P mi pc .iaload pc') (hL : L[a]? = none) (hc : rx_ci P a = some (n, f)) (hi : ¬ (i < 0 ∨ n ≤ i.toNatClampNeg)) (kk : rs P mi F Lo pc' lv (.int (f i.toNatClampNeg) :: r) L Q) : rs P mi F Lo pc lv (.int i :: .ref a :: r) L Q := by
  refine rs_heap h rfl rfl rfl ?_ kk
  unfold rx_heap
  simp only [hL, hc]
  rw [if_pos hi]
theorem rs_bald {a n t : Nat} {i : Int32} {f : Nat → Int32} {r : List Value} (h : ri P mi pc .baload pc') (hL : L[a]? = some (.inl (t, n, .inl f))) (ht : t = 2 ∨ t = 3) (hi : ¬ (i < 0 ∨ n ≤ i.toNatClampNeg)) (kk : rs P mi F Lo pc' lv (.int (f i.toNatClampNeg) :: r) L Q) : rs P mi F Lo pc lv (.int i :: .ref a :: r) L Q := by
  refine rs_heap h rfl rfl rfl ?_ kk
  unfold rx_heap
  simp only [hL]
  rw [if_pos ⟨ht, hi⟩]
theorem rs_lald {a n : Nat} {i : Int32} {f : Nat → Int64} {r : List Value} (h : ri P mi pc .laload pc') (hL : L[a]? = some (.inl (1, n, .inr (.inl f)))) (hi : ¬ (i < 0 ∨ n ≤ i.toNatClampNeg)) (kk : rs P mi F Lo pc' lv (.long (f i.toNatClampNeg) :: r) L Q) : rs P mi F Lo pc lv (.int i :: .ref a :: r) L Q := by
  refine rs_heap h rfl rfl rfl ?_ kk
  unfold rx_heap
  simp only [hL]
  rw [if_pos ⟨trivial, hi⟩]
theorem rs_aald {a n t k : Nat} {i : Int32} {f : Nat → Option Nat} {r : List Value} (h : ri P mi pc .aaload pc') (hL : L[a]? = some (.inl (t, n, .inr (.inr (.inr (.inr f)))))) (ht : 4 ≤ t ∧ t < 7) (hi : ¬ (i < 0 ∨ n ≤ i.toNatClampNeg)) (hk : f i.toNatClampNeg = some k) (kk : rs P mi F Lo pc' lv (.ref k :: r) L Q) : rs P mi F Lo pc lv (.int i :: .ref a :: r) L Q := by
  refine rs_heap h rfl rfl rfl ?_ kk
  unfold rx_heap
  simp only [hL]
  rw [if_pos ⟨ht.1, ht.2, hi⟩, hk]
  rfl
theorem rs_iast {a n : Nat} {i x : Int32} {f : Nat → Int32} {r : List Value} (h : ri P mi pc .iastore pc') (hL : L[a]? = some (.inl (0, n, .inl f))) (hi : ¬ (i < 0 ∨ n ≤ i.toNatClampNeg)) (kk : rs P mi F Lo pc' lv r (L.set a (.inl (0, n, .inl (upd f i.toNatClampNeg x)))) Q) : rs P mi F Lo pc lv (.int x :: .int i :: .ref a :: r) L Q := by
  refine rs_heap h rfl rfl rfl ?_ kk
  unfold rx_heap
  simp only [hL]
  rw [if_pos ⟨trivial, hi⟩]
theorem rs_bast {a n : Nat} {i x : Int32} {f : Nat → Int32} {r : List Value} (h : ri P mi pc .bastore pc') (hL : L[a]? = some (.inl (2, n, .inl f))) (hi : ¬ (i < 0 ∨ n ≤ i.toNatClampNeg)) (kk : rs P mi F Lo pc' lv r (L.set a (.inl (2, n, .inl (upd f i.toNatClampNeg (vp_nar .byte x))))) Q) : rs P mi F Lo pc lv (.int x :: .int i :: .ref a :: r) L Q := by
  refine rs_heap h rfl rfl rfl ?_ kk
  unfold rx_heap
  simp only [hL]
  rw [if_pos ⟨trivial, hi⟩]
theorem rs_zast {a n : Nat} {i x : Int32} {f : Nat → Int32} {r : List Value} (h : ri P mi pc .bastore pc') (hL : L[a]? = some (.inl (3, n, .inl f))) (hi : ¬ (i < 0 ∨ n ≤ i.toNatClampNeg)) (kk : rs P mi F Lo pc' lv r (L.set a (.inl (3, n, .inl (upd f i.toNatClampNeg (vp_nar .boolean x))))) Q) : rs P mi F Lo pc lv (.int x :: .int i :: .ref a :: r) L Q := by
  refine rs_heap h rfl rfl rfl ?_ kk
  unfold rx_heap
  simp only [hL]
  rw [if_neg (fun q => by cases q.1), if_pos ⟨trivial, hi⟩]
theorem rs_last {a n : Nat} {i : Int32} {x : Int64} {f : Nat → Int64} {r : List Value} (h : ri P mi pc .lastore pc') (hL : L[a]? = some (.inl (1, n, .inr (.inl f)))) (hi : ¬ (i < 0 ∨ n ≤ i.toNatClampNeg)) (kk : rs P mi F Lo pc' lv r (L.set a (.inl (1, n, .inr (.inl (vp_updL f i.toNatClampNeg x))))) Q) : rs P mi F Lo pc lv (.long x :: .int i :: .ref a :: r) L Q := by
  refine rs_heap h rfl rfl rfl ?_ kk
  unfold rx_heap
  simp only [hL]
  rw [if_pos ⟨trivial, hi⟩]
theorem rs_alen {a n t : Nat} {x : rx_Ar} {r : List Value} (h : ri P mi pc .arraylength pc') (hL : L[a]? = some (.inl (t, n, x))) (ht : t < 7) (kk : rs P mi F Lo pc' lv (.int (Int32.ofNat n) :: r) L Q) : rs P mi F Lo pc lv (.ref a :: r) L Q := by
  refine rs_heap h rfl rfl rfl ?_ kk
  unfold rx_heap
  simp only [hL]
  rw [if_pos ht]
theorem rs_slen {a n : Nat} {f : Nat → Int32} {r : List Value} (h : ri P mi pc .arraylength pc') (hL : L[a]? = none) (hc : rx_ci P a = some (n, f)) (kk : rs P mi F Lo pc' lv (.int (Int32.ofNat n) :: r) L Q) : rs P mi F Lo pc lv (.ref a :: r) L Q := by
  refine rs_heap h rfl rfl rfl ?_ kk
  unfold rx_heap
  simp only [hL, hc]
theorem rs_ldc {idx : Nat} {v : Int32} (h : ri P mi pc (.ldc idx) pc') (hk : rx_kt P mi idx = some (.int v)) (kk : rs P mi F Lo pc' lv (.int v :: st) L Q) : rs P mi F Lo pc lv st L Q := by
  refine rs_heap h rfl rfl rfl ?_ kk
  unfold rx_heap
  simp only [hk]
theorem rs_ldcw {idx : Nat} {v : Int32} (h : ri P mi pc (.ldc_w idx) pc') (hk : rx_kt P mi idx = some (.int v)) (kk : rs P mi F Lo pc' lv (.int v :: st) L Q) : rs P mi F Lo pc lv st L Q := by
  refine rs_heap h rfl rfl rfl ?_ kk
  unfold rx_heap
  simp only [hk]
theorem rs_ldcl {idx : Nat} {v : Int64} (h : ri P mi pc (.ldc2_w idx) pc') (hk : rx_kt P mi idx = some (.long v)) (kk : rs P mi F Lo pc' lv (.long v :: st) L Q) : rs P mi F Lo pc lv st L Q := by
  refine rs_heap h rfl rfl rfl ?_ kk
  unfold rx_heap
  simp only [hk]
theorem rs_iret {v : Int32} {ty : FieldType} (h : ri P mi pc .ireturn pc') (hr : rx_rt P mi = some ty) (hn : narrow ty (.int v) = .int v) (k : Q (.inl (some (.int v))) L) : rs P mi F Lo pc lv [.int v] L Q := by
  refine rs_ret h rfl rfl rfl rfl ?_ k
  unfold rx_ret
  rw [hr]
  simp only
  rw [if_pos hn]
theorem rs_lret {v : Int64} (h : ri P mi pc .lreturn pc') (hr : rx_rt P mi = some .long) (k : Q (.inl (some (.long v))) L) : rs P mi F Lo pc lv [.long v] L Q := by
  refine rs_ret h rfl rfl rfl rfl ?_ k
  unfold rx_ret
  rw [hr]
theorem rs_vret (h : ri P mi pc .return_ pc') (hr : rx_rt P mi = none) (k : Q (.inl none) L) : rs P mi F Lo pc lv [] L Q := by
  refine rs_ret h rfl rfl rfl rfl ?_ k
  unfold rx_ret
  rw [hr]
theorem rs_aret {a : Nat} {C : String} (h : ri P mi pc .areturn pc') (hr : rx_rt P mi = some (.object C)) (k : Q (.inl (some (.ref a))) L) : rs P mi F Lo pc lv [.ref a] L Q := by
  refine rs_ret h rfl rfl rfl rfl ?_ k
  unfold rx_ret
  rw [hr]
/-- what comes behind a call -/
def rs_af (P : rx_P) (th : Bool) (mi F Lo pc pc' : Nat) (lv : rx_L) (rest : List Value) (Q : ((Option Value) ⊕ String) → List va_E → Prop) (o : (Option Value) ⊕ String) (L1 : List va_E) : Prop := match o with
  | .inl v => rs P mi F Lo pc' lv (v.toList ++ rest) L1 Q
  | .inr E => th = true ∧ rx_ht P mi pc E = none ∧ rx_hh P mi = [] ∧ Q (.inr E) L1
theorem rs_inv {th : Bool} {mj : Nat} {as rest : List Value} (hF : 1 ≤ F) (hLo : rx_ml P mj + 19 ≤ Lo) (hc : rq_cc P mj as rest = true) (hpc : pc + 3 = pc')
    (k : rs P mj (F - 1) (Lo - (rx_ml P mj + 19)) 0 (lv_args 0 as) [] L (rs_af P th mi F Lo pc pc' lv rest Q)) :
    ∃ f o L2 c n, rx_inv P (rx_run P f) th mi F Lo pc lv mj as rest L = some (o, L2, c, n) ∧ rs_b o c n ∧ Q o L2 := by
  obtain ⟨o, L1, c, n, ⟨f, hf⟩, h2, h4⟩ := k
  unfold rq_cc at hc
  rw [Bool.and_eq_true] at hc
  have hcond : 1 ≤ F ∧ rx_ml P mj + 19 ≤ Lo ∧ rx_words rest ≤ 8 ∧ (lg_sl as).length ≤ rx_ml P mj := ⟨hF, hLo, Nat.le_of_ble_eq_true hc.1, Nat.le_of_ble_eq_true hc.2⟩
  subst hpc
  cases o with
  | inl v =>
    obtain ⟨o2, L2, c2, n2, ⟨g, hg⟩, g2, g4⟩ := h4
    obtain ⟨rfl, rfl⟩ : c = 0 ∧ n = 0 := h2
    refine ⟨max f g, o2, L2, 0 + c2, 0 + n2, ?_, by rw [Nat.zero_add, Nat.zero_add]; exact g2, g4⟩
    unfold rx_inv
    rw [if_pos hcond, rv_le (Nat.le_max_left f g) hf]
    simp only []
    rw [rv_le (Nat.le_max_right f g) hg]
    rfl
  | inr E =>
    obtain ⟨rfl, hh, h0, h4⟩ := h4
    refine ⟨f, .inr E, L1, c, n, ?_, h2, h4⟩
    unfold rx_inv
    rw [if_pos hcond, hf]
    simp only [hh]
    rw [if_pos trivial, if_pos h0]
theorem rs_V {idx mj n b : Nat} {as rest : List Value} (h : ri P mi pc (.invokevirtual idx) pc') (hct : rx_ct P mi idx = some (0, mj, n)) (htk : rx_take n st = some (as, .ref b :: rest)) (hisa : rx_isa P L b (rx_yn P mj).cls = true) (hF : 1 ≤ F) (hLo : rx_ml P mj + 19 ≤ Lo) (hc : rq_cc P mj (.ref b :: as) rest = true)
    (k : rs P mj (F - 1) (Lo - (rx_ml P mj + 19)) 0 (lv_args 0 (.ref b :: as)) [] L (rs_af P true mi F Lo pc pc' lv rest Q)) : rs P mi F Lo pc lv st L Q := by
  obtain ⟨f, o, L2, c, n', hr, h2, h4⟩ := rs_inv (th := true) hF hLo hc h.2.2 k
  refine ⟨o, L2, c, n', ⟨f + 1, ?_⟩, h2, h4⟩
  show rx_go P (rx_run P f) mi F Lo pc lv st L = some _
  unfold rx_go
  rw [h.1, h.2.1]
  show rx_call P (rx_run P f) mi F Lo pc lv st L (.invokevirtual idx) = _
  unfold rx_call
  simp only [hct, htk]
  rw [if_pos ⟨trivial, hisa⟩]
  exact hr
theorem rs_S {idx kd mj n : Nat} {as rest : List Value} (h : ri P mi pc (.invokestatic idx) pc') (hct : rx_ct P mi idx = some (kd, mj, n)) (hkd : kd = 1 ∨ kd = 3) (htk : rx_take n st = some (as, rest)) (hF : 1 ≤ F) (hLo : rx_ml P mj + 19 ≤ Lo) (hc : rq_cc P mj as rest = true)
    (k : rs P mj (F - 1) (Lo - (rx_ml P mj + 19)) 0 (lv_args 0 as) [] L (rs_af P true mi F Lo pc pc' lv rest Q)) : rs P mi F Lo pc lv st L Q := by
  obtain ⟨f, o, L2, c, n', hr, h2, h4⟩ := rs_inv (th := true) hF hLo hc h.2.2 k
  refine ⟨o, L2, c, n', ⟨f + 1, ?_⟩, h2, h4⟩
  show rx_go P (rx_run P f) mi F Lo pc lv st L = some _
  unfold rx_go
  rw [h.1, h.2.1]
  show rx_call P (rx_run P f) mi F Lo pc lv st L (.invokestatic idx) = _
  unfold rx_call
  simp only [hct, htk]
  rw [if_pos hkd]
  exact hr
theorem rs_SN {idx mj n : Nat} {as rest : List Value} (h : ri P mi pc (.invokestatic idx) pc') (hct : rx_ct P mi idx = some (11, mj, n)) (htk : rx_take n st = some (as, rest)) (hF : 1 ≤ F) (hLo : rx_ml P mj + 19 ≤ Lo) (hc : rq_cc P mj as rest = true)
    (k : rs P mj (F - 1) (Lo - (rx_ml P mj + 19)) 0 (lv_args 0 as) [] L (rs_af P false mi F Lo pc pc' lv rest Q)) : rs P mi F Lo pc lv st L Q := by
  obtain ⟨f, o, L2, c, n', hr, h2, h4⟩ := rs_inv (th := false) hF hLo hc h.2.2 k
  refine ⟨o, L2, c, n', ⟨f + 1, ?_⟩, h2, h4⟩
  show rx_go P (rx_run P f) mi F Lo pc lv st L = some _
  unfold rx_go
  rw [h.1, h.2.1]
  show rx_call P (rx_run P f) mi F Lo pc lv st L (.invokestatic idx) = _
  unfold rx_call
  simp only [hct, htk]
  rw [if_neg (by omega), if_pos trivial]
  exact hr
theorem rs_back {th : Bool} {v : Option Value} {rest : List Value} {L1 : List va_E} (k : rs P mi F Lo pc' lv (v.toList ++ rest) L1 Q) : rs_af P th mi F Lo pc pc' lv rest Q (.inl v) L1 := k
theorem rs_up {E : String} {rest : List Value} {L1 : List va_E} (hh : rx_ht P mi pc E = none) (h0 : rx_hh P mi = []) (k : Q (.inr E) L1) : rs_af P true mi F Lo pc pc' lv rest Q (.inr E) L1 := ⟨rfl, hh, h0, k⟩
theorem rs_topi {x v : Int32} {r : List Value} (e : x = v) (k : rs P mi F Lo pc lv (.int v :: r) L Q) : rs P mi F Lo pc lv (.int x :: r) L Q := by rw [e]; exact k
theorem rs_topl {x v : Int64} {r : List Value} (e : x = v) (k : rs P mi F Lo pc lv (.long v :: r) L Q) : rs P mi F Lo pc lv (.long x :: r) L Q := by rw [e]; exact k
theorem rs_back1 {th : Bool} {v : Value} {rest : List Value} {L1 : List va_E} (k : rs P mi F Lo pc' lv (v :: rest) L1 Q) : rs_af P th mi F Lo pc pc' lv rest Q (.inl (some v)) L1 := k
theorem rs_back0 {th : Bool} {rest : List Value} {L1 : List va_E} (k : rs P mi F Lo pc' lv rest L1 Q) : rs_af P th mi F Lo pc pc' lv rest Q (.inl none) L1 := k
theorem rs_tsd {d lo hi : Int} {offs : Array Int} {x : Int32} {r : List Value} {tg : Nat} (h : ri P mi pc (.tableswitch d lo hi offs) pc') (hx : x.toInt < lo ∨ hi < x.toInt) (ht : rtg pc d tg) (k : rs P mi F Lo tg lv r L Q) : rs P mi F Lo pc lv (.int x :: r) L Q := by
  refine rs_jmp h rfl rfl (pc2 := tg) ?_ k
  unfold rx_jmp
  simp only
  rw [if_pos hx, if_pos ht.1, ht.2]
theorem rs_tsk {d lo hi off : Int} {offs : Array Int} {x v : Int32} {r : List Value} {tg : Nat} (h : ri P mi pc (.tableswitch d lo hi offs) pc') (hx : x = v) (hv : ¬ (v.toInt < lo ∨ hi < v.toInt)) (ho : offs[(v.toInt - lo).toNat]? = some off) (ht : rtg pc off tg) (k : rs P mi F Lo tg lv r L Q) : rs P mi F Lo pc lv (.int x :: r) L Q := by
  subst hx
  refine rs_jmp h rfl rfl (pc2 := tg) ?_ k
  unfold rx_jmp
  simp only
  rw [if_neg hv, ho]
  simp only
  rw [if_pos ht.1, ht.2]
theorem rs_ildn {k : Fin 4} {x : Int32} (h : ri P mi pc (.iload_n k) pc') (hl : rx_ld lv k = some (.int x)) (kk : rs P mi F Lo pc' lv (.int x :: st) L Q) : rs P mi F Lo pc lv st L Q :=
  rs_loc h rfl (by unfold rx_loc; simp only [hl]) kk
theorem rs_ild {k : Nat} {x : Int32} (h : ri P mi pc (.iload k) pc') (hl : rx_ld lv k = some (.int x)) (kk : rs P mi F Lo pc' lv (.int x :: st) L Q) : rs P mi F Lo pc lv st L Q :=
  rs_loc h rfl (by unfold rx_loc; simp only [hl]) kk
theorem rs_lldn {k : Fin 4} {x : Int64} (h : ri P mi pc (.lload_n k) pc') (hl : rx_ld lv k = some (.long x)) (kk : rs P mi F Lo pc' lv (.long x :: st) L Q) : rs P mi F Lo pc lv st L Q :=
  rs_loc h rfl (by unfold rx_loc; simp only [hl]) kk
theorem rs_lld {k : Nat} {x : Int64} (h : ri P mi pc (.lload k) pc') (hl : rx_ld lv k = some (.long x)) (kk : rs P mi F Lo pc' lv (.long x :: st) L Q) : rs P mi F Lo pc lv st L Q :=
  rs_loc h rfl (by unfold rx_loc; simp only [hl]) kk
theorem rs_aldn {k : Fin 4} {a : Nat} (h : ri P mi pc (.aload_n k) pc') (hl : rx_ld lv k = some (.ref a)) (kk : rs P mi F Lo pc' lv (.ref a :: st) L Q) : rs P mi F Lo pc lv st L Q :=
  rs_loc h rfl (by unfold rx_loc; simp only [hl]) kk
theorem rs_ald {k : Nat} {a : Nat} (h : ri P mi pc (.aload k) pc') (hl : rx_ld lv k = some (.ref a)) (kk : rs P mi F Lo pc' lv (.ref a :: st) L Q) : rs P mi F Lo pc lv st L Q :=
  rs_loc h rfl (by unfold rx_loc; simp only [hl]) kk
end RS
