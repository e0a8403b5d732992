/-! THE CONSTRUCTORS, run to their ends: by wip/whole/mkstart.py -/
def rz_m0 : List Value := [.int 0, .null, .int 0, .null, .int 0, .int 0, .null, .int 0, .null, .null, .null, .int 0, .int 0, .int 0, .int 0, .int 0, .null, .null, .null, .null, .null, .null, .null, .null, .int 0, .null, .null, .null, .null, .null, .null, .null, .null, .null, .int 0, .null, .null, .int 0, .null, .null, .null, .null, .null, .null, .null, .null, .null, .null, .null, .null, .null, .null, .null, .null, .null, .null, .null, .null, .null, .null, .null, .null, .null, .null, .null, .null, .null, .int 0, .long 0, .null, .null, .null, .null, .long 0, .int 0, .null, .int 0, .int 0, .int 0, .long 0, .int 0, .int 0, .int 0, .null, .null, .null, .null, .null, .null, .null, .int 0, .int 0, .null, .null, .null, .null, .null, .int 0, .null, .null, .null, .int 0, .int 0, .null, .int 0, .int 0, .int 0, .null, .null, .null, .int 0, .int 0, .int 0, .int 0, .null, .null, .null, .null, .null, .null, .null, .int 0, .null, .int 0, .int 0, .int 0, .int 0, .int 0, .int 0, .int 0, .int 0, .int 0, .int 0, .int 0, .int 0, .null, .null, .null, .null, .null]
def rz_c0 : List Value := [.null, .null, .null, .null, .null, .null, .null, .null, .null, .null]
def rz_o0 : va_E := .inl (1, 1, .inr (.inl (fun _ => 0)))
def rz_void (r : Option rx_R) (k : List va_E → Nat → Nat → Bool) : Bool := match r with
  | some (.inl none, L, c, n) => k L c n
  | _ => false
def rz_bound (c n c' n' : Nat) : Bool := Nat.ble c c' && Nat.ble n n'
/-- ints, longs, references of a heap -/
def exI (L : List va_E) (a k : Nat) : Int32 := match L[a]? with
  | some (.inl (_, _, .inl f)) => f k
  | some (.inr (_, fs)) => (match fs[k]? with
    | some (.int v) => v
    | _ => 0)
  | _ => 0
def exL (L : List va_E) (a k : Nat) : Int64 := match L[a]? with
  | some (.inl (_, _, .inr (.inl f))) => f k
  | some (.inr (_, fs)) => (match fs[k]? with
    | some (.long v) => v
    | _ => 0)
  | _ => 0
def exR (L : List va_E) (a k : Nat) : Option Nat := match L[a]? with
  | some (.inl (_, _, .inr (.inr (.inr (.inr f))))) => f k
  | _ => none
def zkI (L : List va_E) (a n : Nat) (g : Nat → Int32) : Bool := (List.range n).all (fun k => decide (exI L a k = g k))
def zkL (L : List va_E) (a n : Nat) (g : Nat → Int64) : Bool := (List.range n).all (fun k => decide (exL L a k = g k))
def zkR (L : List va_E) (a n : Nat) (g : Nat → Option Nat) : Bool := (List.range n).all (fun k => decide (exR L a k = g k))
def zkA (L : List va_E) : Bool := zkI L 162 12 (fun j => if 7 ≤ j ∧ j < 10 then nM else nI 0) && (zkI L 160 4 (fun _ => nI 0) && (zkI L 251 4 (fun _ => nI 0) && (zkL L 6 31 (fun w => pkN (2 + w) (sB (2 + w)).length) && (zkR L 8 4 (fun k => some (oA k)) && (zkR L 9 12 (fun k => some (kA k)) && zkR L 177 31 (fun k => some (rx_K (2 + k))))))))
def rz_all (fm : Value) : Bool :=
  rz_void (rx_run (rt_Pn fm) 100000 55 2047 83980 0 [(0, .ref 0)] [] [.inr (14, rz_c0)]) (fun L1 c1 n1 => rz_bound c1 n1 200 140000 && (Nat.beq L1.length 174 &&
  rz_void (rx_run (rt_Pn fm) 100000 91 2047 83980 0 [(0, .ref 174)] [] (L1 ++ [.inr (15, rz_m0)])) (fun L2 c2 n2 => rz_bound c2 n2 100 700000 && (Nat.beq L2.length 266 && (rz_heap (L2 ++ [rz_o0]) rz_T0 && zkA (L2 ++ [rz_o0]))))))
theorem rz_void_ok {r : Option rx_R} {k : List va_E → Nat → Nat → Bool} (h : rz_void r k = true) : ∃ L c n, r = some (.inl none, L, c, n) ∧ k L c n = true := by
  unfold rz_void at h
  split at h
  · exact ⟨_, _, _, rfl, h⟩
  · cases h
theorem rz_bound_ok {c n c' n' : Nat} (h : rz_bound c n c' n' = true) : c ≤ c' ∧ n ≤ n' := by
  unfold rz_bound at h
  rw [Bool.and_eq_true] at h
  exact ⟨Nat.le_of_ble_eq_true h.1, Nat.le_of_ble_eq_true h.2⟩
section RQ2
variable {P : rx_P} {mi F Lo cb sb pc pc' : Nat} {lv : rx_L} {st : List Value} {L : List va_E} {Q : ((Option Value) ⊕ String) → List va_E → Prop}
theorem rq_of_run {f : Nat} {o : (Option Value) ⊕ String} {L2 : List va_E} {c n : Nat} (h : rx_run P f mi F Lo pc lv st L = some (o, L2, c, n)) (hc : c ≤ cb ∧ n ≤ sb) (hQ : Q o L2) : rq P mi F Lo cb sb pc lv st L Q := ⟨o, L2, c, n, ⟨f, h⟩, hc.1, hc.2, hQ⟩
theorem rq_alloc {ins : Instr} {st' : List Value} {L' : List va_E} {dc ds : Nat} (h : ri P mi pc ins pc') (e0 : rx_pure ins st = none) (e1 : rx_loc ins (rx_ml P mi) lv st = none) (e2 : rx_jmp ins pc st = none) (e : rx_heap P mi ins st L = some (st', L', dc, ds)) (k : rq P mi F Lo cb sb pc' lv st' L' Q) : rq P mi F Lo (dc + cb) (ds + sb) pc lv st L Q := by
  obtain ⟨o, L2, c, n, h1, h2, h3, h4⟩ := k
  obtain ⟨hx, hc, rfl⟩ := h
  exact ⟨o, L2, dc + c, ds + n, rv_heap hx hc e0 e1 e2 e h1, by omega, by omega, h4⟩
theorem rq_new {idx ci N a : Nat} {fs : List Value} (h : ri P mi pc (.new idx) pc') (hn : rx_nt P mi idx = some (ci, N, fs)) (ha : L.length = a) (hl : a < rx_B) (kk : rq P mi F Lo cb sb pc' lv (.ref a :: st) (L ++ [.inr (ci, fs)]) Q) : rq P mi F Lo (1 + cb) (N + sb) pc lv st L Q := by
  subst ha
  refine rq_alloc h rfl rfl rfl ?_ kk
  unfold rx_heap
  simp only [hn]
  rw [if_pos hl]
theorem rq_newl {a k : Nat} {x : Int32} {r : List Value} (h : ri P mi pc (.newarray .long) pc') (hx : ¬ x < 0) (hk : x.toNatClampNeg = k) (hb : k * 8 ≤ 536870912) (ha : L.length = a) (hl : a < rx_B) (kk : rq P mi F Lo cb sb pc' lv (.ref a :: r) (L ++ [.inl (1, k, .inr (.inl (fun _ => 0)))]) Q) : rq P mi F Lo (1 + cb) (k + sb) pc lv (.int x :: r) L Q := by
  subst ha
  subst hk
  refine rq_alloc h rfl rfl rfl ?_ kk
  unfold rx_heap
  simp only [rx_dv]
  rw [if_pos ⟨hx, hb, hl⟩]
theorem rq_I1 {idx mj n b c1 s1 F' Lo' : Nat} {as rest : List Value} (h : ri P mi pc (.invokespecial idx) pc') (hct : rx_ct P mi idx = some (2, mj, n)) (htk : rx_take n st = some (as, .ref b :: rest)) (hF : F = F' + 1) (hLo : Lo = Lo' + (rx_ml P mj + 19)) (hc : rq_cc P mj (.ref b :: as) rest = true)
    (k : rq P mj F' Lo' c1 s1 0 (lv_args 0 (.ref b :: as)) [] L (rq_af P false mi F Lo cb sb pc pc' lv rest Q)) : rq P mi F Lo (c1 + cb) (s1 + sb) pc lv st L Q := by
  have k2 : rq P mj (F - 1) (Lo - (rx_ml P mj + 19)) c1 s1 0 (lv_args 0 (.ref b :: as)) [] L (rq_af P false mi F Lo cb sb pc pc' lv rest Q) := by
    rw [show F - 1 = F' by omega, show Lo - (rx_ml P mj + 19) = Lo' by omega]
    exact k
  obtain ⟨f, o, L2, c, n', hr, h2, h3, h4⟩ := rq_inv (th := false) (by omega) (by omega) hc h.2.2 (Nat.le_refl _) k2
  refine ⟨o, L2, c, n', ⟨f + 1, ?_⟩, h2, h3, h4⟩
  show rx_go P (rx_run P f) mi F Lo pc lv st L = some _
  unfold rx_go
  rw [h.1, h.2.1]
  show rx_call P (rx_run P f) mi F Lo pc lv st L (.invokespecial idx) = _
  unfold rx_call
  simp only [hct, htk]
  rw [if_neg (by decide), if_pos (Or.inl trivial)]
  exact hr
end RQ2
theorem rz_allN : rz_all .null = true := by decide +kernel
