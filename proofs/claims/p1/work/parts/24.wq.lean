/-! THE SAME RULES, for heaps that are known by some cells -/
section RQ1
variable {P : rx_P} {mi F Lo cb sb pc pc' : Nat} {lv : rx_L} {st : List Value} {L : List va_E} {Q : ((Option Value) ⊕ String) → List va_E → Prop}
theorem rq_topi {x v : Int32} {r : List Value} (e : x = v) (k : rq P mi F Lo cb sb pc lv (.int v :: r) L Q) : rq P mi F Lo cb sb pc lv (.int x :: r) L Q := by rw [e]; exact k
theorem rq_topl {x v : Int64} {r : List Value} (e : x = v) (k : rq P mi F Lo cb sb pc lv (.long v :: r) L Q) : rq P mi F Lo cb sb pc lv (.long x :: r) L Q := by rw [e]; exact k
/-- L1 is L, but for the cell a, which is X -/
def rz_upd (L : List va_E) (a : Nat) (X : va_E) (L1 : List va_E) : Prop := L1[a]? = some X ∧ ∀ b, b ≠ a → L1[b]? = L[b]?
theorem rz_upd_set {a : Nat} {X Y : va_E} (h : L[a]? = some Y) : rz_upd L a X (L.set a X) := by
  refine ⟨?_, fun b hb => ?_⟩
  · rw [List.getElem?_set_self (List.getElem?_eq_some_iff.mp h).1]
  · rw [List.getElem?_set_ne (fun e => hb e.symm)]
theorem rq_putf1 {idx ci k a : Nat} {ty : FieldType} {fs : List Value} {v : Value} {r : List Value} (h : ri P mi pc (.putfield idx) pc') (hf : rx_pt P mi idx = some (ci, k, ty)) (hL : L[a]? = some (.inr (ci, fs))) (hk : Nat.blt k fs.length = true) (hn : narrow ty v = v) (hfit : fits ty v = true) (kk : ∀ L1, rz_upd L a (.inr (ci, fs.set k v)) L1 → rq P mi F Lo cb sb pc' lv r L1 Q) : rq P mi F Lo cb sb pc lv (v :: .ref a :: r) L Q :=
  rq_putf h hf hL hk hn hfit (kk _ (rz_upd_set hL))
theorem rq_iast1 {a n : Nat} {i x : Int32} {f : Nat → Int32} {r : List Value} (h : ri P mi pc .iastore pc') (hL : L[a]? = some (.inl (0, n, .inl f))) (hi : ¬ (i < 0 ∨ n ≤ i.toNatClampNeg)) (kk : ∀ L1, rz_upd L a (.inl (0, n, .inl (upd f i.toNatClampNeg x))) L1 → rq P mi F Lo cb sb pc' lv r L1 Q) : rq P mi F Lo cb sb pc lv (.int x :: .int i :: .ref a :: r) L Q :=
  rq_iast h hL hi (kk _ (rz_upd_set hL))
theorem rq_bast1 {a n : Nat} {i x : Int32} {f : Nat → Int32} {r : List Value} (h : ri P mi pc .bastore pc') (hL : L[a]? = some (.inl (2, n, .inl f))) (hi : ¬ (i < 0 ∨ n ≤ i.toNatClampNeg)) (kk : ∀ L1, rz_upd L a (.inl (2, n, .inl (upd f i.toNatClampNeg (vp_nar .byte x)))) L1 → rq P mi F Lo cb sb pc' lv r L1 Q) : rq P mi F Lo cb sb pc lv (.int x :: .int i :: .ref a :: r) L Q :=
  rq_bast h hL hi (kk _ (rz_upd_set hL))
theorem rq_zast1 {a n : Nat} {i x : Int32} {f : Nat → Int32} {r : List Value} (h : ri P mi pc .bastore pc') (hL : L[a]? = some (.inl (3, n, .inl f))) (hi : ¬ (i < 0 ∨ n ≤ i.toNatClampNeg)) (kk : ∀ L1, rz_upd L a (.inl (3, n, .inl (upd f i.toNatClampNeg (vp_nar .boolean x)))) L1 → rq P mi F Lo cb sb pc' lv r L1 Q) : rq P mi F Lo cb sb pc lv (.int x :: .int i :: .ref a :: r) L Q :=
  rq_zast h hL hi (kk _ (rz_upd_set hL))
theorem rq_last1 {a n : Nat} {i : Int32} {x : Int64} {f : Nat → Int64} {r : List Value} (h : ri P mi pc .lastore pc') (hL : L[a]? = some (.inl (1, n, .inr (.inl f)))) (hi : ¬ (i < 0 ∨ n ≤ i.toNatClampNeg)) (kk : ∀ L1, rz_upd L a (.inl (1, n, .inr (.inl (vp_updL f i.toNatClampNeg x)))) L1 → rq P mi F Lo cb sb pc' lv r L1 Q) : rq P mi F Lo cb sb pc lv (.long x :: .int i :: .ref a :: r) L Q :=
  rq_last h hL hi (kk _ (rz_upd_set hL))
theorem rq_sald1 {a n : Nat} {i x : Int32} {f : Nat → Int32} {r : List Value} (h : ri P mi pc .iaload pc') (hL : L[a]? = none) (hc : rx_ci P a = some (n, f)) (hi : ¬ (i < 0 ∨ n ≤ i.toNatClampNeg)) (hx : f i.toNatClampNeg = x) (kk : rq P mi F Lo cb sb pc' lv (.int x :: r) L Q) : rq P mi F Lo cb sb pc lv (.int i :: .ref a :: r) L Q :=
  rq_sald h hL hc hi (by rw [hx]; exact kk)
def rz_cn (ci : Nat) (C : String) : Bool := match vwCl[ci]? with | some q => q.1 == C | none => false
theorem rz_isa {b cj : Nat} {fs : List Value} {C : String} (hL : L[b]? = some (.inr (cj, fs))) (h : rz_cn cj C = true) : rx_isa P L b C = true := by
  unfold rx_isa
  rw [hL]
  exact h
theorem rq_V1 {idx mj n b c1 s1 F' Lo' : Nat} {as rest : List Value} (h : ri P mi pc (.invokevirtual idx) pc') (hct : rx_ct P mi idx = some (0, mj, n)) (htk : rx_take n st = some (as, .ref b :: rest)) (hisa : rx_isa P L b (rx_yn P mj).cls = true) (hF : F = F' + 1) (hLo : Lo = Lo' + (rx_ml P mj + 19)) (hc : rq_cc P mj (.ref b :: as) rest = true)
    (k : rq P mj F' Lo' c1 s1 0 (lv_args 0 (.ref b :: as)) [] L (rq_af P true mi F Lo cb sb pc pc' lv rest Q)) : rq P mi F Lo (c1 + cb) (s1 + sb) pc lv st L Q := by
  refine rq_V h hct htk hisa (by omega) (by omega) hc ?_
  rw [show F - 1 = F' by omega, show Lo - (rx_ml P mj + 19) = Lo' by omega]
  exact k
theorem rq_S1 {idx kd mj n c1 s1 F' Lo' : Nat} {as rest : List Value} (h : ri P mi pc (.invokestatic idx) pc') (hct : rx_ct P mi idx = some (kd, mj, n)) (hkd : kd = 1 ∨ kd = 3) (htk : rx_take n st = some (as, rest)) (hF : F = F' + 1) (hLo : Lo = Lo' + (rx_ml P mj + 19)) (hc : rq_cc P mj as rest = true)
    (k : rq P mj F' Lo' c1 s1 0 (lv_args 0 as) [] L (rq_af P true mi F Lo cb sb pc pc' lv rest Q)) : rq P mi F Lo (c1 + cb) (s1 + sb) pc lv st L Q := by
  refine rq_S h hct hkd htk (by omega) (by omega) hc ?_
  rw [show F - 1 = F' by omega, show Lo - (rx_ml P mj + 19) = Lo' by omega]
  exact k
theorem rq_back1 {th : Bool} {v : Value} {rest : List Value} {L1 : List va_E} (k : rq P mi F Lo cb sb pc' lv (v :: rest) L1 Q) : rq_af P th mi F Lo cb sb pc pc' lv rest Q (.inl (some v)) L1 := k
theorem rq_back0 {th : Bool} {rest : List Value} {L1 : List va_E} (k : rq P mi F Lo cb sb pc' lv rest L1 Q) : rq_af P th mi F Lo cb sb pc pc' lv rest Q (.inl none) L1 := k
theorem rq_catch1 {E : String} {rest : List Value} {L1 : List va_E} {hpc pc2 : Nat} {k' : Fin 4} (hh : rx_ht P mi pc E = some (hpc, k')) (hp : hpc + 1 = pc2) (k : rq P mi F Lo cb sb pc2 (rx_rm lv k') [] L1 Q) : rq_af P true mi F Lo cb sb pc pc' lv rest Q (.inr E) L1 := by
  subst hp
  exact rq_catch hh k
/-- switches -/
theorem rq_tsd {d lo hi : Int} {offs : Array Int} {x : Int32} {r : List Value} {tg : Nat} (h : ri P mi pc (.tableswitch d lo hi offs) pc') (hx : x.toInt < lo ∨ hi < x.toInt) (ht : rtg pc d tg) (k : rq P mi F Lo cb sb tg lv r L Q) : rq P mi F Lo cb sb pc lv (.int x :: r) L Q := by
  refine rq_jmp h rfl rfl (pc2 := tg) ?_ k
  unfold rx_jmp
  simp only
  rw [if_pos hx, if_pos ht.1, ht.2]
theorem rq_tsk {d lo hi off : Int} {offs : Array Int} {x v : Int32} {r : List Value} {tg : Nat} (h : ri P mi pc (.tableswitch d lo hi offs) pc') (hx : x = v) (hv : ¬ (v.toInt < lo ∨ hi < v.toInt)) (ho : offs[(v.toInt - lo).toNat]? = some off) (ht : rtg pc off tg) (k : rq P mi F Lo cb sb tg lv r L Q) : rq P mi F Lo cb sb pc lv (.int x :: r) L Q := by
  subst hx
  refine rq_jmp h rfl rfl (pc2 := tg) ?_ k
  unfold rx_jmp
  simp only
  rw [if_neg hv, ho]
  simp only
  rw [if_pos ht.1, ht.2]
theorem rz_sw {x : Int32} {lo hi : Int} (h : ∀ k : Int, lo ≤ k → k ≤ hi → x ≠ Int32.ofInt k) : x.toInt < lo ∨ hi < x.toInt := by
  by_cases h1 : x.toInt < lo
  · exact Or.inl h1
  by_cases h2 : hi < x.toInt
  · exact Or.inr h2
  exact absurd (Int32.ofInt_toInt x).symm (h x.toInt (by omega) (by omega))
theorem rz_in {x : Int32} {n : Nat} {m : Int32} (h0 : ¬ x < 0) (h1 : x < m) (hm : m.toInt = n) : ¬ (x < 0 ∨ n ≤ x.toNatClampNeg) := by
  rintro (q | q)
  · exact h0 q
  · have h0' : ¬ x.toInt < 0 := fun e => h0 (Int32.lt_iff_toInt_lt.mpr (by simpa using e))
    have h1' := Int32.lt_iff_toInt_lt.mp h1
    have : (x.toNatClampNeg : Int) = x.toInt := by
      show ((x.toInt.toNat : Nat) : Int) = _
      omega
    omega
end RQ1
/-- what is known of a heap: objects with their fields, arrays by type and length -/
def rz_cell (x : va_E) (e : Sum (Nat × List Value) (Nat × Nat)) : Bool := match e, x with
  | .inl (ci, fs), .inr (cj, gs) => Nat.beq ci cj && decide (fs = gs)
  | .inr (t, n), .inl (t', n', .inl _) => Nat.beq t t' && (Nat.beq n n' && (Nat.beq t 0 || (Nat.beq t 2 || Nat.beq t 3)))
  | .inr (t, n), .inl (t', n', .inr (.inl _)) => Nat.beq t t' && (Nat.beq n n' && Nat.beq t 1)
  | .inr (t, n), .inl (t', n', .inr (.inr (.inr (.inr _)))) => Nat.beq t t' && (Nat.beq n n' && (Nat.ble 4 t && Nat.blt t 7))
  | _, _ => false
def rz_heap : List va_E → List (Sum (Nat × List Value) (Nat × Nat)) → Bool
  | [], [] => true
  | x :: r, e :: r2 => rz_cell x e && rz_heap r r2
  | _, _ => false
theorem rz_heap_at : ∀ {L : List va_E} {T : List (Sum (Nat × List Value) (Nat × Nat))} {a : Nat} {e : Sum (Nat × List Value) (Nat × Nat)}, rz_heap L T = true → T[a]? = some e → ∃ x, L[a]? = some x ∧ rz_cell x e = true
  | [], [], a, e, _, h => by simp at h
  | [], _ :: _, _, _, h, _ => by cases h
  | _ :: _, [], _, _, h, _ => by cases h
  | x :: r, e0 :: r2, 0, e, h, ht => by
    simp only [rz_heap, Bool.and_eq_true] at h
    simp at ht
    subst ht
    exact ⟨x, rfl, h.1⟩
  | x :: r, e0 :: r2, a + 1, e, h, ht => by
    simp only [rz_heap, Bool.and_eq_true] at h
    simp only [List.getElem?_cons_succ] at ht ⊢
    exact rz_heap_at h.2 ht
theorem rz_heap_len : ∀ {L : List va_E} {T : List (Sum (Nat × List Value) (Nat × Nat))}, rz_heap L T = true → L.length = T.length
  | [], [], _ => rfl
  | [], _ :: _, h => by cases h
  | _ :: _, [], h => by cases h
  | x :: r, e0 :: r2, h => by
    simp only [rz_heap, Bool.and_eq_true] at h
    simp only [List.length_cons]
    rw [rz_heap_len h.2]
theorem rz_obj {L : List va_E} {T : List (Sum (Nat × List Value) (Nat × Nat))} {a ci : Nat} {fs : List Value} (h : rz_heap L T = true) (ht : T[a]? = some (.inl (ci, fs))) : L[a]? = some (.inr (ci, fs)) := by
  obtain ⟨x, h1, h2⟩ := rz_heap_at h ht
  rcases x with ⟨t, n, y⟩ | ⟨cj, gs⟩
  · cases h2
  · simp only [rz_cell, Bool.and_eq_true, decide_eq_true_eq] at h2
    rw [h1, Nat.eq_of_beq_eq_true h2.1, h2.2]
theorem rz_arrI {L : List va_E} {T : List (Sum (Nat × List Value) (Nat × Nat))} {a t n : Nat} (h : rz_heap L T = true) (ht : T[a]? = some (.inr (t, n))) (hp : t = 0 ∨ t = 2 ∨ t = 3) : ∃ f, L[a]? = some (.inl (t, n, .inl f)) := by
  obtain ⟨x, h1, h2⟩ := rz_heap_at h ht
  rcases x with ⟨t', n', f | f | f | f | f⟩ | ⟨cj, gs⟩
  · simp only [rz_cell, Bool.and_eq_true] at h2
    rw [Nat.eq_of_beq_eq_true h2.1, Nat.eq_of_beq_eq_true h2.2.1]
    exact ⟨f, h1⟩
  · simp only [rz_cell, Bool.and_eq_true] at h2
    have := Nat.eq_of_beq_eq_true h2.2.2
    omega
  · cases h2
  · cases h2
  · simp only [rz_cell, Bool.and_eq_true] at h2
    have := Nat.le_of_ble_eq_true h2.2.2.1
    omega
  · cases h2
theorem rz_arrL {L : List va_E} {T : List (Sum (Nat × List Value) (Nat × Nat))} {a n : Nat} (h : rz_heap L T = true) (ht : T[a]? = some (.inr (1, n))) : ∃ f, L[a]? = some (.inl (1, n, .inr (.inl f))) := by
  obtain ⟨x, h1, h2⟩ := rz_heap_at h ht
  rcases x with ⟨t', n', f | f | f | f | f⟩ | ⟨cj, gs⟩
  · simp only [rz_cell, Bool.and_eq_true, Bool.or_eq_true] at h2
    rcases h2.2.2 with q | q | q <;> cases q
  · simp only [rz_cell, Bool.and_eq_true] at h2
    rw [Nat.eq_of_beq_eq_true h2.1, Nat.eq_of_beq_eq_true h2.2.1]
    exact ⟨f, h1⟩
  · cases h2
  · cases h2
  · simp only [rz_cell, Bool.and_eq_true] at h2
    cases h2.2.2.1
  · cases h2
