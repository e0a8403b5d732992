/-! PURE PROGRAMS beside the code -/
/-- a state: what stands in cell a at place i, as an int and as a long -/
abbrev cS := (Nat → Nat → Int32) × (Nat → Nat → Int64)
def pI (x : cS) (a i : Nat) (v : Int32) : cS := (fun b => if b = a then upd (x.1 a) i v else x.1 b, x.2)
def pL (x : cS) (a i : Nat) (v : Int64) : cS := (x.1, fun b => if b = a then vp_updL (x.2 a) i v else x.2 b)
abbrev ix (i : Int32) : Nat := i.toNatClampNeg
abbrev ib (i : Int32) (n : Nat) : Prop := ¬ (i < 0 ∨ n ≤ i.toNatClampNeg)
abbrev nb (v : Int32) : Prop := v = 0 ∨ v = 1
abbrev nc (v : Int32) : Prop := v.toUInt32.toUInt16.toUInt32.toInt32 = v
abbrev nby (v : Int32) : Prop := v.toInt8.toInt32 = v
theorem ib_lt {i : Int32} {n : Nat} (h : ib i n) : ix i < n := Nat.lt_of_not_le fun q => h (Or.inr q)
def oA (o : Nat) : Nat := 18 + 6 * o
def kA (k : Nat) : Nat := 42 + 6 * k
def sB (j : Nat) : List Int32 := (rt_sb j).getD []
def wp {α : Type} : Option α → (α → Prop) → Prop
  | none, _ => False
  | some a, K => K a
def whl {S R : Type} (f : S → Option (S ⊕ R)) : Nat → S → Option R
  | 0, _ => none
  | n + 1, s => (f s).bind (fun r => Sum.elim (whl f n) some r)
def lt {α β : Type} (a : α) (f : α → β) : β := f a
def jn {α β : Type} (k : α → β) (f : (α → β) → β) : β := f k
section WP
variable {α β S R : Type} {K : β → Prop}
theorem wp_bind {x : Option α} {f : α → Option β} (h : wp (x.bind f) K) : wp x (fun a => wp (f a) K) := by
  cases x <;> exact h
theorem wp_pos {p : Prop} [Decidable p] {x y : Option β} (h : wp (if p then x else y) K) (hp : p) : wp x K := by
  rw [if_pos hp] at h
  exact h
theorem wp_neg {p : Prop} [Decidable p] {x y : Option β} (h : wp (if p then x else y) K) (hp : ¬ p) : wp y K := by
  rw [if_neg hp] at h
  exact h
theorem wp_gd {p : Prop} [Decidable p] {x : Option β} (h : wp (if p then x else none) K) : p ∧ wp x K := by
  by_cases hp : p
  · exact ⟨hp, wp_pos h hp⟩
  · exact (wp_neg h hp).elim
theorem wp_inl {γ : Type} {f : α → Option β} {g : γ → Option β} {p : α} (h : wp (Sum.elim f g (.inl p)) K) : wp (f p) K := h
theorem wp_inr {γ : Type} {f : α → Option β} {g : γ → Option β} {p : γ} (h : wp (Sum.elim f g (.inr p)) K) : wp (g p) K := h
theorem wp_jn {k : α → Option β} {f : (α → Option β) → Option β} {G : Prop} {B : α → Prop} (h : wp (jn k f) K) (hB : ∀ p, wp (k p) K → B p) (hG : ∀ j : α → Option β, (∀ p, wp (j p) K → B p) → wp (f j) K → G) : G := hG k hB h
theorem wp_lt {a : α} {f : α → Option β} (h : wp (lt a f) K) : ∃ v, a = v ∧ wp (f v) K := ⟨a, rfl, h⟩
theorem sum_all {γ : Type} {X : α ⊕ γ → Prop} {B1 : α → Prop} {B2 : γ → Prop} (h1 : ∀ a, X (.inl a) → B1 a) (h2 : ∀ b, X (.inr b) → B2 b) : ∀ e, X e → Sum.elim B1 B2 e
  | .inl a, h => h1 a h
  | .inr b, h => h2 b h
theorem wp_mono {x : Option β} {K' : β → Prop} (h : wp x K) (hk : ∀ b, K b → K' b) : wp x K' := by
  cases x
  · exact h.elim
  · exact hk _ h
theorem whl_ind {f : S → Option (S ⊕ R)} {A : S → Prop} {X : R → Prop} (h : ∀ s, wp (f s) (Sum.elim A X) → A s) : ∀ n s, wp (whl f n s) X → A s
  | 0, _, hw => hw.elim
  | n + 1, s, hw => by
    refine h s (wp_mono (wp_bind hw) fun r hr => ?_)
    cases r with
    | inl s' => exact whl_ind h n s' hr
    | inr r => exact hr
theorem whl_ex {f : S → Option (S ⊕ R)} {A : S → Prop} {X B : R → Prop} (h : ∀ s, wp (f s) (Sum.elim A B) → A s) (hB : ∀ e, X e → B e) (n : Nat) (s : S) (hw : wp (whl f n s) X) : A s := whl_ind h n s (wp_mono hw hB)
end WP
/-- cells -/
def cfl (f : Nat → Int32) (g : Nat → Int64) (k : Nat) : Value → Value
  | .int _ => .int (f k)
  | .long _ => .long (g k)
  | v => v
def cfs (f : Nat → Int32) (g : Nat → Int64) : Nat → List Value → List Value
  | _, [] => []
  | k, v :: r => cfl f g k v :: cfs f g (k + 1) r
theorem cfs_at (f : Nat → Int32) (g : Nat → Int64) : ∀ (fs : List Value) (j k : Nat), (cfs f g j fs)[k]? = (fs[k]?).map (cfl f g (j + k))
  | [], _, _ => rfl
  | _ :: _, _, 0 => rfl
  | _ :: r, j, k + 1 => by
    show (cfs f g (j + 1) r)[k]? = _
    rw [cfs_at f g r (j + 1) k, Nat.add_right_comm]
    rfl
theorem cfs_len (f : Nat → Int32) (g : Nat → Int64) : ∀ (fs : List Value) (j : Nat), (cfs f g j fs).length = fs.length
  | [], _ => rfl
  | _ :: r, j => congrArg (· + 1) (cfs_len f g r (j + 1))
abbrev cE := Sum (Nat × List Value) (Nat × Nat)
def cel (f : Nat → Int32) (g : Nat → Int64) (ρ : Nat → Option Nat) : cE → va_E
  | .inl (ci, fs) => .inr (ci, cfs f g 0 fs)
  | .inr (1, n) => .inl (1, n, .inr (.inl g))
  | .inr (4, n) => .inl (4, n, .inr (.inr (.inr (.inr ρ))))
  | .inr (5, n) => .inl (5, n, .inr (.inr (.inr (.inr ρ))))
  | .inr (6, n) => .inl (6, n, .inr (.inr (.inr (.inr ρ))))
  | .inr (t, n) => .inl (t, n, .inl f)
/-- the heap: cells under 174 are the class's, those under 266 the reference's, one more is the law's -/
abbrev cW := cS × (Nat → Nat → Option Nat)
def pk (b : Bool) (x y : cS) (w : cW) (a : Nat) : cS := if a < 266 then (if decide (a < 174) = b then x else y) else w.1
def hqs (b : Bool) (x y : cS) (w : cW) : Nat → List cE → List va_E
  | _, [] => []
  | a, e :: r => cel ((pk b x y w a).1 a) ((pk b x y w a).2 a) (w.2 a) e :: hqs b x y w (a + 1) r
def hq (b : Bool) (x y : cS) (w : cW) : List va_E := hqs b x y w 0 rz_T0
theorem hqs_at {b : Bool} {x y : cS} {w : cW} : ∀ (l : List cE) (j k : Nat), (hqs b x y w j l)[k]? = (l[k]?).map (cel ((pk b x y w (j + k)).1 (j + k)) ((pk b x y w (j + k)).2 (j + k)) (w.2 (j + k)))
  | [], _, _ => rfl
  | _ :: _, _, 0 => rfl
  | _ :: r, j, k + 1 => by
    show (hqs b x y w (j + 1) r)[k]? = _
    rw [hqs_at r (j + 1) k, Nat.add_right_comm]
    rfl
def sd (b : Bool) (a : Nat) : Prop := a < 266 ∧ decide (a < 174) = b
/-- an array; a field -/
def ta (b : Bool) (a t n : Nat) : Prop := rz_T0[a]? = some (.inr (t, n)) ∧ sd b a
def fo (b : Bool) (a ci k : Nat) (v : Value) : Prop := ∃ fs : List Value, rz_T0[a]? = some (.inl (ci, fs)) ∧ fs[k]? = some v ∧ sd b a
section DQ
variable {P : rx_P} {mi F Lo pc pc' : Nat} {lv : rx_L} {st : List Value} {Q : ((Option Value) ⊕ String) → List va_E → Prop} {b : Bool} {x y : cS} {w : cW}
theorem pk_sd {a : Nat} (h : sd b a) : pk b x y w a = x := by
  unfold pk
  rw [if_pos h.1, if_pos h.2]
theorem hq_at {a : Nat} {e : cE} (h : rz_T0[a]? = some e) (hs : sd b a) : (hq b x y w)[a]? = some (cel (x.1 a) (x.2 a) (w.2 a) e) := by
  unfold hq
  rw [hqs_at, h, Nat.zero_add, pk_sd hs]
  rfl
theorem hq_set {a : Nat} {e : cE} {x' : cS} {X : va_E} (h : rz_T0[a]? = some e) (hs : sd b a) (h1 : ∀ k, k ≠ a → x'.1 k = x.1 k) (h2 : ∀ k, k ≠ a → x'.2 k = x.2 k) (hX : X = cel (x'.1 a) (x'.2 a) (w.2 a) e) : (hq b x y w).set a X = hq b x' y w := by
  apply List.ext_getElem?
  intro k
  rw [List.getElem?_set]
  by_cases hk : a = k
  · subst hk
    have hl : a < (hq b x y w).length := (List.getElem?_eq_some_iff.mp (hq_at (x := x) (y := y) (w := w) h hs)).1
    rw [if_pos rfl, if_pos hl, hq_at (x := x') h hs, hX]
  · rw [if_neg hk]
    unfold hq
    rw [hqs_at, hqs_at, Nat.zero_add]
    by_cases hp : k < 266 ∧ decide (k < 174) = b
    · rw [pk_sd hp, pk_sd hp, h1 k (Ne.symm hk), h2 k (Ne.symm hk)]
    · unfold pk
      by_cases h3 : k < 266
      · have h4 : ¬ decide (k < 174) = b := fun q => hp ⟨h3, q⟩
        rw [if_pos h3, if_pos h3, if_neg h4, if_neg h4]
      · rw [if_neg h3, if_neg h3]
theorem pI_ne {a i k : Nat} {v : Int32} (hk : k ≠ a) : (pI x a i v).1 k = x.1 k := by
  show (if k = a then _ else x.1 k) = _
  rw [if_neg hk]
theorem pL_ne {a i k : Nat} {v : Int64} (hk : k ≠ a) : (pL x a i v).2 k = x.2 k := by
  show (if k = a then _ else x.2 k) = _
  rw [if_neg hk]
theorem pI_at {a i : Nat} {v : Int32} : (pI x a i v).1 a = upd (x.1 a) i v := by
  show (if a = a then _ else x.1 a) = _
  rw [if_pos rfl]
theorem pL_at {a i : Nat} {v : Int64} : (pL x a i v).2 a = vp_updL (x.2 a) i v := by
  show (if a = a then _ else x.2 a) = _
  rw [if_pos rfl]
theorem dq_iald {a n : Nat} {i : Int32} {r : List Value} (h : ri P mi pc .iaload pc') (t : ta b a 0 n) (g : ib i n) (kk : rs P mi F Lo pc' lv (.int (x.1 a (ix i)) :: r) (hq b x y w) Q) : rs P mi F Lo pc lv (.int i :: .ref a :: r) (hq b x y w) Q :=
  rs_iald h (hq_at t.1 t.2) g kk
theorem dq_bald {a n : Nat} {i : Int32} {r : List Value} (h : ri P mi pc .baload pc') (t : ta b a 2 n) (g : ib i n) (kk : rs P mi F Lo pc' lv (.int (x.1 a (ix i)) :: r) (hq b x y w) Q) : rs P mi F Lo pc lv (.int i :: .ref a :: r) (hq b x y w) Q :=
  rs_bald h (hq_at t.1 t.2) (Or.inl rfl) g kk
theorem dq_zald {a n : Nat} {i : Int32} {r : List Value} (h : ri P mi pc .baload pc') (t : ta b a 3 n) (g : ib i n) (kk : rs P mi F Lo pc' lv (.int (x.1 a (ix i)) :: r) (hq b x y w) Q) : rs P mi F Lo pc lv (.int i :: .ref a :: r) (hq b x y w) Q :=
  rs_bald h (hq_at t.1 t.2) (Or.inr rfl) g kk
theorem dq_lald {a n : Nat} {i : Int32} {r : List Value} (h : ri P mi pc .laload pc') (t : ta b a 1 n) (g : ib i n) (kk : rs P mi F Lo pc' lv (.long (x.2 a (ix i)) :: r) (hq b x y w) Q) : rs P mi F Lo pc lv (.int i :: .ref a :: r) (hq b x y w) Q :=
  rs_lald h (hq_at t.1 t.2) g kk
theorem dq_aald {a n q : Nat} {t : Nat} {i : Int32} {r : List Value} (h : ri P mi pc .aaload pc') (ht : t = 4 ∨ t = 5 ∨ t = 6) (tt : ta b a t n) (g : ib i n) (hr : w.2 a (ix i) = some q) (kk : rs P mi F Lo pc' lv (.ref q :: r) (hq b x y w) Q) : rs P mi F Lo pc lv (.int i :: .ref a :: r) (hq b x y w) Q := by
  rcases ht with rfl | rfl | rfl
  · exact rs_aald h (hq_at tt.1 tt.2) (by decide) g hr kk
  · exact rs_aald h (hq_at tt.1 tt.2) (by decide) g hr kk
  · exact rs_aald h (hq_at tt.1 tt.2) (by decide) g hr kk
theorem dq_iast {a n : Nat} {i v : Int32} {r : List Value} (h : ri P mi pc .iastore pc') (t : ta b a 0 n) (g : ib i n) {x1 : cS} (e1 : pI x a (ix i) v = x1) (kk : rs P mi F Lo pc' lv r (hq b x1 y w) Q) : rs P mi F Lo pc lv (.int v :: .int i :: .ref a :: r) (hq b x y w) Q := by
  subst e1
  refine rs_iast h (hq_at t.1 t.2) g ?_
  rw [hq_set (x := x) (x' := pI x a (ix i) v) t.1 t.2 (fun _ => pI_ne) (fun _ _ => rfl) (by show _ = Sum.inl (0, n, Sum.inl ((pI x a (ix i) v).1 a)); rw [pI_at])]
  exact kk
theorem dq_bast {a n : Nat} {i v : Int32} {r : List Value} (h : ri P mi pc .bastore pc') (t : ta b a 2 n) (g : ib i n) {x1 : cS} (e1 : pI x a (ix i) (vp_nar .byte v) = x1) (kk : rs P mi F Lo pc' lv r (hq b x1 y w) Q) : rs P mi F Lo pc lv (.int v :: .int i :: .ref a :: r) (hq b x y w) Q := by
  subst e1
  refine rs_bast h (hq_at t.1 t.2) g ?_
  rw [hq_set (x := x) (x' := pI x a (ix i) (vp_nar .byte v)) t.1 t.2 (fun _ => pI_ne) (fun _ _ => rfl) (by show _ = Sum.inl (2, n, Sum.inl ((pI x a (ix i) (vp_nar .byte v)).1 a)); rw [pI_at])]
  exact kk
theorem dq_zast {a n : Nat} {i v : Int32} {r : List Value} (h : ri P mi pc .bastore pc') (t : ta b a 3 n) (g : ib i n) {x1 : cS} (e1 : pI x a (ix i) (vp_nar .boolean v) = x1) (kk : rs P mi F Lo pc' lv r (hq b x1 y w) Q) : rs P mi F Lo pc lv (.int v :: .int i :: .ref a :: r) (hq b x y w) Q := by
  subst e1
  refine rs_zast h (hq_at t.1 t.2) g ?_
  rw [hq_set (x := x) (x' := pI x a (ix i) (vp_nar .boolean v)) t.1 t.2 (fun _ => pI_ne) (fun _ _ => rfl) (by show _ = Sum.inl (3, n, Sum.inl ((pI x a (ix i) (vp_nar .boolean v)).1 a)); rw [pI_at])]
  exact kk
theorem dq_last {a n : Nat} {i : Int32} {v : Int64} {r : List Value} (h : ri P mi pc .lastore pc') (t : ta b a 1 n) (g : ib i n) {x1 : cS} (e1 : pL x a (ix i) v = x1) (kk : rs P mi F Lo pc' lv r (hq b x1 y w) Q) : rs P mi F Lo pc lv (.long v :: .int i :: .ref a :: r) (hq b x y w) Q := by
  subst e1
  refine rs_last h (hq_at t.1 t.2) g ?_
  rw [hq_set (x := x) (x' := pL x a (ix i) v) t.1 t.2 (fun _ _ => rfl) (fun _ => pL_ne) (by show _ = Sum.inl (1, n, Sum.inr (Sum.inl ((pL x a (ix i) v).2 a))); rw [pL_at])]
  exact kk
theorem dq_alen {a n t : Nat} {r : List Value} (h : ri P mi pc .arraylength pc') (ht : t < 4) (tt : ta b a t n) (kk : rs P mi F Lo pc' lv (.int (Int32.ofNat n) :: r) (hq b x y w) Q) : rs P mi F Lo pc lv (.ref a :: r) (hq b x y w) Q := by
  have := hq_at (x := x) (y := y) (w := w) tt.1 tt.2
  rcases t with _ | _ | _ | _ | t
  · exact rs_alen h this (by decide) kk
  · exact rs_alen h this (by decide) kk
  · exact rs_alen h this (by decide) kk
  · exact rs_alen h this (by decide) kk
  · omega
theorem dq_alenW {a n : Nat} {r : List Value} (h : ri P mi pc .arraylength pc') (tt : ta b a 6 n) (kk : rs P mi F Lo pc' lv (.int (Int32.ofNat n) :: r) (hq b x y w) Q) : rs P mi F Lo pc lv (.ref a :: r) (hq b x y w) Q :=
  rs_alen h (hq_at tt.1 tt.2) (by decide) kk
theorem dq_gi {idx ci k a : Nat} {z : Int32} {r : List Value} (h : ri P mi pc (.getfield idx) pc') (hf : rx_ft P mi idx = some (ci, k)) (t : fo b a ci k (.int z)) (kk : rs P mi F Lo pc' lv (.int (x.1 a k) :: r) (hq b x y w) Q) : rs P mi F Lo pc lv (.ref a :: r) (hq b x y w) Q := by
  obtain ⟨fs, t1, t2, t3⟩ := t
  refine rs_getf h hf (hq_at t1 t3) ?_ kk
  rw [cfs_at, t2, Nat.zero_add]
  rfl
theorem dq_gl {idx ci k a : Nat} {z : Int64} {r : List Value} (h : ri P mi pc (.getfield idx) pc') (hf : rx_ft P mi idx = some (ci, k)) (t : fo b a ci k (.long z)) (kk : rs P mi F Lo pc' lv (.long (x.2 a k) :: r) (hq b x y w) Q) : rs P mi F Lo pc lv (.ref a :: r) (hq b x y w) Q := by
  obtain ⟨fs, t1, t2, t3⟩ := t
  refine rs_getf h hf (hq_at t1 t3) ?_ kk
  rw [cfs_at, t2, Nat.zero_add]
  rfl
theorem dq_gr {idx ci k a q : Nat} {r : List Value} (h : ri P mi pc (.getfield idx) pc') (hf : rx_ft P mi idx = some (ci, k)) (t : fo b a ci k (.ref q)) (kk : rs P mi F Lo pc' lv (.ref q :: r) (hq b x y w) Q) : rs P mi F Lo pc lv (.ref a :: r) (hq b x y w) Q := by
  obtain ⟨fs, t1, t2, t3⟩ := t
  refine rs_getf h hf (hq_at t1 t3) ?_ kk
  rw [cfs_at, t2, Nat.zero_add]
  rfl
theorem cfs_pI {f : Nat → Int32} {g : Nat → Int64} {k : Nat} {v z : Int32} : ∀ (fs : List Value) (j : Nat), fs[k]? = some (.int z) → (cfs f g j fs).set k (.int v) = cfs (upd f (j + k) v) g j fs := by
  intro fs j hz
  apply List.ext_getElem?
  intro q
  rw [List.getElem?_set, cfs_at, cfs_at]
  by_cases hq : k = q
  · subst hq
    have hl : k < (cfs f g j fs).length := by
      rw [cfs_len]
      exact (List.getElem?_eq_some_iff.mp hz).1
    rw [if_pos rfl, if_pos hl, hz]
    show some (Value.int v) = some (Value.int (if j + k = j + k then v else _))
    rw [if_pos rfl]
  · rw [if_neg hq]
    congr 1
    funext u
    cases u <;> try rfl
    show Value.int (f (j + q)) = Value.int (if j + q = j + k then v else _)
    rw [if_neg (by omega)]
theorem cfs_pL {f : Nat → Int32} {g : Nat → Int64} {k : Nat} {v z : Int64} : ∀ (fs : List Value) (j : Nat), fs[k]? = some (.long z) → (cfs f g j fs).set k (.long v) = cfs f (vp_updL g (j + k) v) j fs := by
  intro fs j hz
  apply List.ext_getElem?
  intro q
  rw [List.getElem?_set, cfs_at, cfs_at]
  by_cases hq : k = q
  · subst hq
    have hl : k < (cfs f g j fs).length := by
      rw [cfs_len]
      exact (List.getElem?_eq_some_iff.mp hz).1
    rw [if_pos rfl, if_pos hl, hz]
    show some (Value.long v) = some (Value.long (if j + k = j + k then v else _))
    rw [if_pos rfl]
  · rw [if_neg hq]
    congr 1
    funext u
    cases u <;> try rfl
    show Value.long (g (j + q)) = Value.long (if j + q = j + k then v else _)
    rw [if_neg (by omega)]
theorem dq_pi {idx ci k a : Nat} {ty : FieldType} {v z : Int32} {r : List Value} (h : ri P mi pc (.putfield idx) pc') (hf : rx_pt P mi idx = some (ci, k, ty)) (t : fo b a ci k (.int z)) (hn : narrow ty (.int v) = .int v) (hfit : fits ty (.int v) = true) {x1 : cS} (e1 : pI x a k v = x1) (kk : rs P mi F Lo pc' lv r (hq b x1 y w) Q) : rs P mi F Lo pc lv (.int v :: .ref a :: r) (hq b x y w) Q := by
  subst e1
  obtain ⟨fs, t1, t2, t3⟩ := t
  refine rs_putf h hf (hq_at t1 t3) ?_ hn hfit ?_
  · rw [cfs_len]
    exact Nat.blt_eq.mpr (List.getElem?_eq_some_iff.mp t2).1
  · rw [hq_set (x := x) (x' := pI x a k v) t1 t3 (fun _ => pI_ne) (fun _ _ => rfl) (by show _ = Sum.inr (ci, cfs ((pI x a k v).1 a) ((pI x a k v).2 a) 0 fs); rw [cfs_pI fs 0 t2, Nat.zero_add, pI_at]; rfl)]
    exact kk
theorem dq_pl {idx ci k a : Nat} {ty : FieldType} {v z : Int64} {r : List Value} (h : ri P mi pc (.putfield idx) pc') (hf : rx_pt P mi idx = some (ci, k, ty)) (t : fo b a ci k (.long z)) (hn : narrow ty (.long v) = .long v) (hfit : fits ty (.long v) = true) {x1 : cS} (e1 : pL x a k v = x1) (kk : rs P mi F Lo pc' lv r (hq b x1 y w) Q) : rs P mi F Lo pc lv (.long v :: .ref a :: r) (hq b x y w) Q := by
  subst e1
  obtain ⟨fs, t1, t2, t3⟩ := t
  refine rs_putf h hf (hq_at t1 t3) ?_ hn hfit ?_
  · rw [cfs_len]
    exact Nat.blt_eq.mpr (List.getElem?_eq_some_iff.mp t2).1
  · rw [hq_set (x := x) (x' := pL x a k v) t1 t3 (fun _ _ => rfl) (fun _ => pL_ne) (by show _ = Sum.inr (ci, cfs ((pL x a k v).1 a) ((pL x a k v).2 a) 0 fs); rw [cfs_pL fs 0 t2, Nat.zero_add, pL_at]; rfl)]
    exact kk
theorem dq_isa {a ci k : Nat} {v : Value} {C : String} (t : fo b a ci k v) (h : rz_cn ci C = true) : rx_isa P (hq b x y w) a C = true := by
  obtain ⟨fs, t1, t2, t3⟩ := t
  exact rz_isa (hq_at t1 t3) h
theorem nc_n {v : Int32} (h : nc v) : narrow .char (.int v) = .int v := congrArg Value.int h
theorem nby_n {v : Int32} (h : nby v) : narrow .byte (.int v) = .int v := congrArg Value.int h
theorem hqs_len : ∀ (l : List cE) (j : Nat), (hqs b x y w j l).length = l.length
  | [], _ => rfl
  | _ :: r, j => congrArg (· + 1) (hqs_len r (j + 1))
theorem hq_len : (hq b x y w).length ≤ rx_B := by
  unfold hq
  rw [hqs_len]
  exact Nat.le_of_ble_eq_true (by decide +kernel)
theorem nb_n {v : Int32} (h : nb v) : narrow .boolean (.int v) = .int v := by
  rcases h with rfl | rfl <;> rfl
theorem nb_f {v : Int32} (h : nb v) : fits .boolean (.int v) = true := by
  rcases h with rfl | rfl <;> rfl
end DQ
theorem ri_of {sc : Nat × (Nat → Int32)} {fm : Value} {mi pc pc' : Nat} {ins : Instr} (h : rt_xt mi pc = none ∧ rt_cd mi pc = some ins) (e : pc + rx_len ins = pc') : ri (rt_P sc fm) mi pc ins pc' := ⟨h.1, h.2, e⟩
theorem ml_le {P : rx_P} {mj k Lo : Nat} (e : rx_ml P mj = k) (h : k + 19 ≤ Lo) : rx_ml P mj + 19 ≤ Lo := by
  rw [e]
  exact h
theorem ml_sub {P : rx_P} {mj k l Lo : Nat} (e : rx_ml P mj = k) (h : l ≤ Lo - (k + 19)) : l ≤ Lo - (rx_ml P mj + 19) := by
  rw [e]
  exact h
/-- stores into locals: what stood elsewhere stands -/
def lk (lv lv1 : rx_L) (k : Nat) : Prop := ∀ j u, k ≠ j → (u.category = 1 ∨ k ≠ j + 1) → rx_ld lv j = some u → rx_ld lv1 j = some u
section DL
variable {P : rx_P} {mi F Lo pc pc' : Nat} {lv : rx_L} {st : List Value} {L : List va_E} {Q : ((Option Value) ⊕ String) → List va_E → Prop}
theorem lk_s1 {k : Nat} {v : Value} : lk lv (rx_s1 lv k v) k := fun _ _ h1 h2 h3 => rx_ld_ne h3 h1 h2
theorem dl_istn {k : Fin 4} {x : Int32} {r : List Value} (h : ri P mi pc (.istore_n k) pc') (hm : Nat.blt k (rx_ml P mi) = true) (kk : ∀ lv1, rx_ld lv1 k = some (.int x) → lk lv lv1 k → rs P mi F Lo pc' lv1 r L Q) : rs P mi F Lo pc lv (.int x :: r) L Q :=
  rs_loc h rfl (by unfold rx_loc; simp only; exact if_pos (Nat.blt_eq.mp hm)) (kk _ rx_ld_self lk_s1)
theorem dl_ist {k : Nat} {x : Int32} {r : List Value} (h : ri P mi pc (.istore k) pc') (hm : Nat.blt k (rx_ml P mi) = true) (kk : ∀ lv1, rx_ld lv1 k = some (.int x) → lk lv lv1 k → rs P mi F Lo pc' lv1 r L Q) : rs P mi F Lo pc lv (.int x :: r) L Q :=
  rs_loc h rfl (by unfold rx_loc; simp only; exact if_pos (Nat.blt_eq.mp hm)) (kk _ rx_ld_self lk_s1)
theorem dl_astn {k : Fin 4} {a : Nat} {r : List Value} (h : ri P mi pc (.astore_n k) pc') (hm : Nat.blt k (rx_ml P mi) = true) (kk : ∀ lv1, rx_ld lv1 k = some (.ref a) → lk lv lv1 k → rs P mi F Lo pc' lv1 r L Q) : rs P mi F Lo pc lv (.ref a :: r) L Q :=
  rs_loc h rfl (by unfold rx_loc; simp only; exact if_pos (Nat.blt_eq.mp hm)) (kk _ rx_ld_self lk_s1)
theorem dl_ast {k : Nat} {a : Nat} {r : List Value} (h : ri P mi pc (.astore k) pc') (hm : Nat.blt k (rx_ml P mi) = true) (kk : ∀ lv1, rx_ld lv1 k = some (.ref a) → lk lv lv1 k → rs P mi F Lo pc' lv1 r L Q) : rs P mi F Lo pc lv (.ref a :: r) L Q :=
  rs_loc h rfl (by unfold rx_loc; simp only; exact if_pos (Nat.blt_eq.mp hm)) (kk _ rx_ld_self lk_s1)
theorem dl_inc {k : Nat} {n : Int} {x y : Int32} (h : ri P mi pc (.iinc k n) pc') (hl : rx_ld lv k = some (.int x)) (hm : Nat.blt k (rx_ml P mi) = true) (e : x + Int32.ofInt n = y) (kk : ∀ lv1, rx_ld lv1 k = some (.int y) → lk lv lv1 k → rs P mi F Lo pc' lv1 st L Q) : rs P mi F Lo pc lv st L Q := by
  subst e
  exact rs_loc h rfl (by unfold rx_loc; simp only [hl]; exact if_pos (Nat.blt_eq.mp hm)) (kk _ rx_ld_self lk_s1)
/-- longs stand in two places -/
def lk2 (lv lv1 : rx_L) (k : Nat) : Prop := ∀ j u, k ≠ j → k + 1 ≠ j → (u.category = 1 ∨ k ≠ j + 1) → rx_ld lv j = some u → rx_ld lv1 j = some u
theorem lk2_s2 {k : Nat} {v : Value} : lk2 lv (rx_s2 lv k v) k := by
  intro j u hij hij2 hw h
  unfold rx_s2
  show (if k = j then some v else rx_ld _ j) = some u
  rw [if_neg hij]
  induction lv with
  | nil => cases h
  | cons q r ih =>
    unfold rx_ld at h
    rw [List.filter_cons]
    split at h
    · rename_i e
      cases h
      have hb : (!(q.1 == k) && (!(q.1 == k + 1) && !(q.1 + 1 == k && q.2.category == 2))) = true := by
        subst e
        rcases hw with hw | hw
        · rw [hw]
          simp [Ne.symm hij, Ne.symm hij2]
        · simp [Ne.symm hij, Ne.symm hij2, Ne.symm hw]
      rw [if_pos hb]
      unfold rx_ld
      rw [if_pos e]
    · rename_i e
      split
      · unfold rx_ld
        rw [if_neg e]
        exact ih h
      · exact ih h
theorem rx_ld_self2 {k : Nat} {v : Value} : rx_ld (rx_s2 lv k v) k = some v := by
  unfold rx_s2
  show (if k = k then some v else rx_ld _ k) = some v
  rw [if_pos rfl]
theorem dl_lstn {k : Fin 4} {x : Int64} {r : List Value} (h : ri P mi pc (.lstore_n k) pc') (hm : Nat.blt (k + 1) (rx_ml P mi) = true) (kk : ∀ lv1, rx_ld lv1 k = some (.long x) → lk2 lv lv1 k → rs P mi F Lo pc' lv1 r L Q) : rs P mi F Lo pc lv (.long x :: r) L Q :=
  rs_loc h rfl (by unfold rx_loc; simp only; exact if_pos (Nat.blt_eq.mp hm)) (kk _ rx_ld_self2 lk2_s2)
theorem dl_lst {k : Nat} {x : Int64} {r : List Value} (h : ri P mi pc (.lstore k) pc') (hm : Nat.blt (k + 1) (rx_ml P mi) = true) (kk : ∀ lv1, rx_ld lv1 k = some (.long x) → lk2 lv lv1 k → rs P mi F Lo pc' lv1 r L Q) : rs P mi F Lo pc lv (.long x :: r) L Q :=
  rs_loc h rfl (by unfold rx_loc; simp only; exact if_pos (Nat.blt_eq.mp hm)) (kk _ rx_ld_self2 lk2_s2)
theorem dl_idiv {x v : Int32} {r : List Value} (h : ri P mi pc .idiv pc') (hv : v ≠ 0) (kk : rs P mi F Lo pc' lv (.int (x / v) :: r) L Q) : rs P mi F Lo pc lv (.int v :: .int x :: r) L Q :=
  rs_pure h (show (if v = 0 then none else some (Value.int (x / v) :: r)) = _ from if_neg hv) kk
theorem dl_irem {x v : Int32} {r : List Value} (h : ri P mi pc .irem pc') (hv : v ≠ 0) (kk : rs P mi F Lo pc' lv (.int (x - x / v * v) :: r) L Q) : rs P mi F Lo pc lv (.int v :: .int x :: r) L Q :=
  rs_pure h (show (if v = 0 then none else some (Value.int (x - x / v * v) :: r)) = _ from if_neg hv) kk
theorem dl_ldiv {x v : Int64} {r : List Value} (h : ri P mi pc .ldiv pc') (hv : v ≠ 0) (kk : rs P mi F Lo pc' lv (.long (x / v) :: r) L Q) : rs P mi F Lo pc lv (.long v :: .long x :: r) L Q :=
  rs_pure h (show (if v = 0 then none else some (Value.long (x / v) :: r)) = _ from if_neg hv) kk
theorem dl_lrem {x v : Int64} {r : List Value} (h : ri P mi pc .lrem pc') (hv : v ≠ 0) (kk : rs P mi F Lo pc' lv (.long (x - x / v * v) :: r) L Q) : rs P mi F Lo pc lv (.long v :: .long x :: r) L Q :=
  rs_pure h (show (if v = 0 then none else some (Value.long (x - x / v * v) :: r)) = _ from if_neg hv) kk
end DL
/-- what the arrays of objects hold; what stands for the text of a wrong index -/
def rOK (fm : Value) (w : cW) : Prop := (∀ i, i < 4 → w.2 8 i = some (oA i)) ∧ (∀ i, i < 12 → w.2 9 i = some (kA i)) ∧ (∀ i, i < 31 → w.2 177 i = some (rx_K (2 + i))) ∧ (fm = .null ∨ fm = .ref rx_Fm)
theorem rw_some : ∀ {i : Nat}, i < 31 → (rt_sb (2 + i)).isSome = true := by
  intro i hi
  have h : ∀ j : Fin 31, (rt_sb (2 + j.1)).isSome = true := by decide +kernel
  exact h ⟨i, hi⟩
section DT
variable {sc : Nat × (Nat → Int32)} {fm : Value} {P : rx_P} {mi F Lo pc pc' : Nat} {lv : rx_L} {st : List Value} {L : List va_E} {Q : ((Option Value) ⊕ String) → List va_E → Prop}
theorem rs_ldcS {idx k : Nat} (h : ri P mi pc (.ldc idx) pc') (hk : rx_kt P mi idx = some (.ref k)) (kk : rs P mi F Lo pc' lv (.ref k :: st) L Q) : rs P mi F Lo pc lv st L Q := by
  refine rs_heap h rfl rfl rfl ?_ kk
  unfold rx_heap
  simp only [hk]
theorem dq_gs {idx : Nat} {v : Value} (h : ri P mi pc (.getstatic idx) pc') (hk : rx_gt P mi idx = some v) (kk : rs P mi F Lo pc' lv (v :: st) L Q) : rs P mi F Lo pc lv st L Q := by
  refine rs_heap h rfl rfl rfl ?_ kk
  unfold rx_heap
  simp only [hk]
theorem sB_of {j : Nat} (h : (rt_sb j).isSome = true) : rt_sb j = some (sB j) := by
  obtain ⟨bs, e⟩ := Option.isSome_iff_exists.mp h
  unfold sB
  rw [e]
  rfl
theorem rx_K_sub (j : Nat) : (rx_K j - rx_B) / 2 = j := by
  unfold rx_K
  omega
theorem rx_V_sub (j : Nat) : (rx_V j - rx_B) / 2 = j := by
  unfold rx_V
  omega
theorem L_K {j : Nat} (hL : L.length ≤ rx_B) : L[rx_K j]? = none := List.getElem?_eq_none (Nat.le_trans hL (Nat.le_add_right _ _))
theorem L_V {j : Nat} (hL : L.length ≤ rx_B) : L[rx_V j]? = none := List.getElem?_eq_none (Nat.le_trans hL (by unfold rx_V; omega))
theorem dq_sv {idx j : Nat} {r : List Value} (h : ri (rt_P sc fm) mi pc (.getfield idx) pc') (hf : rx_ft (rt_P sc fm) mi idx = some (0, 0)) (hL : L.length ≤ rx_B) (hj : (rt_sb j).isSome = true) (kk : rs (rt_P sc fm) mi F Lo pc' lv (.ref (rx_V j) :: r) L Q) : rs (rt_P sc fm) mi F Lo pc lv (.ref (rx_K j) :: r) L Q := by
  refine rs_heap h rfl rfl rfl ?_ kk
  unfold rx_heap
  simp only [hf, L_K hL, rx_K_sub]
  rw [if_pos ⟨trivial, by decide, trivial, hj⟩]
  rfl
theorem dq_sc {idx j : Nat} {r : List Value} (h : ri (rt_P sc fm) mi pc (.getfield idx) pc') (hf : rx_ft (rt_P sc fm) mi idx = some (0, 1)) (hL : L.length ≤ rx_B) (hj : (rt_sb j).isSome = true) (kk : rs (rt_P sc fm) mi F Lo pc' lv (.int 0 :: r) L Q) : rs (rt_P sc fm) mi F Lo pc lv (.ref (rx_K j) :: r) L Q := by
  refine rs_heap h rfl rfl rfl ?_ kk
  unfold rx_heap
  simp only [hf, L_K hL, rx_K_sub]
  rw [if_pos ⟨trivial, by decide, trivial, hj⟩]
  rfl
theorem ci_V {j : Nat} (hj : (rt_sb j).isSome = true) : rx_ci (rt_P sc fm) (rx_V j) = none := by
  have h1 : j < 1000 := rk_ST_lt (sB_of hj)
  have h2 : rx_V j ≠ rx_S ∧ rx_V j ≠ rx_Tk ∧ rx_V j ≠ rx_Gv := by
    unfold rx_V rx_S rx_Tk rx_Gv
    omega
  generalize rx_V j = V at h2
  show rt_ci sc V = none
  unfold rt_ci
  split
  · rename_i hb
    exact absurd (Nat.eq_of_beq_eq_true hb) h2.1
  split
  · rename_i hb
    exact absurd (Nat.eq_of_beq_eq_true hb) h2.2.1
  split
  · rename_i hb
    exact absurd (Nat.eq_of_beq_eq_true hb) h2.2.2
  · rfl
theorem dq_svlA {V j : Nat} {bs : List Int32} {r : List Value} (h : ri P mi pc .arraylength pc') (h1 : (V - rx_B) / 2 = j) (h2 : V = rx_V j) (h3 : L[V]? = none) (h4 : rx_ci P V = none) (e : rx_sb P j = some bs) (kk : rs P mi F Lo pc' lv (.int (Int32.ofNat bs.length) :: r) L Q) : rs P mi F Lo pc lv (.ref V :: r) L Q := by
  refine rs_heap h rfl rfl rfl ?_ kk
  unfold rx_heap
  simp only [h3, h4, h1, e]
  rw [if_pos h2]
theorem dq_svbA {V j : Nat} {bs : List Int32} {i : Int32} {r : List Value} (h : ri P mi pc .baload pc') (h1 : (V - rx_B) / 2 = j) (h2 : V = rx_V j) (h3 : L[V]? = none) (e : rx_sb P j = some bs) (g : ib i bs.length) (kk : rs P mi F Lo pc' lv (.int (bs.getD (ix i) 0) :: r) L Q) : rs P mi F Lo pc lv (.int i :: .ref V :: r) L Q := by
  refine rs_heap h rfl rfl rfl ?_ kk
  unfold rx_heap
  simp only [h3, h1, e]
  rw [if_pos ⟨h2, g⟩]
theorem dq_svl {j : Nat} {r : List Value} (h : ri (rt_P sc fm) mi pc .arraylength pc') (hL : L.length ≤ rx_B) (hj : (rt_sb j).isSome = true) (kk : rs (rt_P sc fm) mi F Lo pc' lv (.int (Int32.ofNat (sB j).length) :: r) L Q) : rs (rt_P sc fm) mi F Lo pc lv (.ref (rx_V j) :: r) L Q :=
  dq_svlA h (rx_V_sub j) rfl (L_V hL) (ci_V hj) (sB_of hj) kk
theorem dq_svb {j : Nat} {i : Int32} {r : List Value} (h : ri (rt_P sc fm) mi pc .baload pc') (hL : L.length ≤ rx_B) (hj : (rt_sb j).isSome = true) (g : ib i (sB j).length) (kk : rs (rt_P sc fm) mi F Lo pc' lv (.int ((sB j).getD (ix i) 0) :: r) L Q) : rs (rt_P sc fm) mi F Lo pc lv (.int i :: .ref (rx_V j) :: r) L Q :=
  dq_svbA h (rx_V_sub j) rfl (L_V hL) (sB_of hj) g kk
theorem dq_isaS {j : Nat} {C : String} (hL : L.length ≤ rx_B) (hj : (rx_sb P j).isSome = true) (h : C = "java/lang/String") : rx_isa P L (rx_K j) C = true := by
  subst h
  unfold rx_isa
  rw [L_K hL]
  simp only [rx_K_sub, hj]
  simp
end DT
/-- System.arraycopy; the class's own tables -/
def exn : Nat → String
  | 0 => "java/lang/IllegalArgumentException"
  | 1 => "java/lang/IllegalStateException"
  | _ => "java/util/NoSuchElementException"
abbrev cg (sp dp n : Int32) (n0 n1 : Nat) : Prop := ¬ sp < 0 ∧ ¬ dp < 0 ∧ ¬ n < 0 ∧ ix sp + ix n ≤ n0 ∧ ix dp + ix n ≤ n1
def pCI (x : cS) (a0 a : Nat) (sp dp n : Int32) : cS := (fun b => if b = a then va_cpy (x.1 a0) (x.1 a) (ix sp) (ix dp) (ix n) else x.1 b, x.2)
def pCL (x : cS) (a0 a : Nat) (sp dp n : Int32) : cS := (x.1, fun b => if b = a then va_cpy (x.2 a0) (x.2 a) (ix sp) (ix dp) (ix n) else x.2 b)
section DC
variable {sc : Nat × (Nat → Int32)} {fm : Value} {P : rx_P} {mi F Lo pc pc' : Nat} {lv : rx_L} {st : List Value} {L : List va_E} {Q : ((Option Value) ⊕ String) → List va_E → Prop} {b : Bool} {x y : cS} {w : cW}
theorem rs_cpy {idx : Nat} {r : List Value} {L' : List va_E} (h : ri P mi pc (.invokestatic idx) pc') (hct : rx_ct P mi idx = none) (hq : rx_qt P mi idx = some 7) (hc : rx_cpy L st = some (r, L')) (hF : 1 ≤ F) (hLo : rx_words r + 18 ≤ Lo) (k : rs P mi F Lo pc' lv r L' Q) : rs P mi F Lo pc lv st L Q := by
  obtain ⟨o, L2, c, n, ⟨f, hf⟩, h2, h3⟩ := k
  obtain ⟨hx, hcd, rfl⟩ := h
  refine ⟨o, L2, c, n, ⟨f + 1, ?_⟩, h2, h3⟩
  show rx_go P (rx_run P f) mi F Lo pc lv st L = some _
  unfold rx_go
  rw [hx, hcd]
  show rx_call P (rx_run P f) mi F Lo pc lv st L (.invokestatic idx) = _
  unfold rx_call
  simp only [hct, hc]
  rw [if_pos hq, if_pos ⟨hF, hLo⟩]
  exact hf
theorem dq_mx {idx : Nat} {x y : Int32} {r : List Value} (h : ri P mi pc (.invokestatic idx) pc') (hct : rx_ct P mi idx = none) (hq : rx_qt P mi idx = some 8) (hF : 1 ≤ F) (hLo : rx_words r + 13 ≤ Lo) (k : rs P mi F Lo pc' lv (.int (if x < y then y else x) :: r) L Q) : rs P mi F Lo pc lv (.int y :: .int x :: r) L Q := by
  obtain ⟨o, L2, c, n, ⟨f, hf⟩, h2, h3⟩ := k
  obtain ⟨hx, hcd, rfl⟩ := h
  refine ⟨o, L2, c, n, ⟨f + 1, ?_⟩, h2, h3⟩
  show rx_go P (rx_run P f) mi F Lo pc lv (.int y :: .int x :: r) L = some _
  unfold rx_go
  rw [hx, hcd]
  show rx_call P (rx_run P f) mi F Lo pc lv (.int y :: .int x :: r) L (.invokestatic idx) = _
  unfold rx_call
  simp only [hct]
  rw [if_neg (by rw [hq]; decide), if_pos hq, if_pos ⟨hF, hLo⟩]
  exact hf
theorem dq_mn {idx : Nat} {x y : Int32} {r : List Value} (h : ri P mi pc (.invokestatic idx) pc') (hct : rx_ct P mi idx = none) (hq : rx_qt P mi idx = some 9) (hF : 1 ≤ F) (hLo : rx_words r + 13 ≤ Lo) (k : rs P mi F Lo pc' lv (.int (if y < x then y else x) :: r) L Q) : rs P mi F Lo pc lv (.int y :: .int x :: r) L Q := by
  obtain ⟨o, L2, c, n, ⟨f, hf⟩, h2, h3⟩ := k
  obtain ⟨hx, hcd, rfl⟩ := h
  refine ⟨o, L2, c, n, ⟨f + 1, ?_⟩, h2, h3⟩
  show rx_go P (rx_run P f) mi F Lo pc lv (.int y :: .int x :: r) L = some _
  unfold rx_go
  rw [hx, hcd]
  show rx_call P (rx_run P f) mi F Lo pc lv (.int y :: .int x :: r) L (.invokestatic idx) = _
  unfold rx_call
  simp only [hct]
  rw [if_neg (by rw [hq]; decide), if_neg (by rw [hq]; decide), if_pos hq, if_pos ⟨hF, hLo⟩]
  exact hf
theorem dq_cpI {idx a0 a n0 n1 : Nat} {sp dp n : Int32} {r : List Value} (h : ri P mi pc (.invokestatic idx) pc') (hct : rx_ct P mi idx = none) (hq' : rx_qt P mi idx = some 7) (t0 : ta b a0 0 n0) (t1 : ta b a 0 n1) (g : cg sp dp n n0 n1) (hF : 1 ≤ F) (hLo : rx_words r + 18 ≤ Lo) {x1 : cS} (e1 : pCI x a0 a sp dp n = x1) (kk : rs P mi F Lo pc' lv r (hq b x1 y w) Q) : rs P mi F Lo pc lv (.int n :: .int dp :: .ref a :: .int sp :: .ref a0 :: r) (hq b x y w) Q := by
  subst e1
  have e0 : (hq b x y w)[a0]? = some (.inl (0, n0, .inl (x.1 a0))) := hq_at t0.1 t0.2
  have e2 : (hq b x y w)[a]? = some (.inl (0, n1, .inl (x.1 a))) := hq_at t1.1 t1.2
  have hset : (hq b x y w).set a (.inl (0, n1, .inl (va_cpy (x.1 a0) (x.1 a) (ix sp) (ix dp) (ix n)))) = hq b (pCI x a0 a sp dp n) y w := hq_set (x := x) (x' := pCI x a0 a sp dp n) t1.1 t1.2 (fun k hk => if_neg hk) (fun _ _ => rfl) (by
    show _ = Sum.inl (0, n1, Sum.inl ((pCI x a0 a sp dp n).1 a))
    rw [show (pCI x a0 a sp dp n).1 a = va_cpy (x.1 a0) (x.1 a) (ix sp) (ix dp) (ix n) from if_pos rfl])
  refine rs_cpy h hct hq' (r := r) (L' := hq b (pCI x a0 a sp dp n) y w) ?_ hF hLo kk
  unfold rx_cpy
  simp only [e0, e2]
  rw [if_pos ⟨trivial, trivial, g⟩, hset]
theorem dq_cpL {idx a0 a n0 n1 : Nat} {sp dp n : Int32} {r : List Value} (h : ri P mi pc (.invokestatic idx) pc') (hct : rx_ct P mi idx = none) (hq' : rx_qt P mi idx = some 7) (t0 : ta b a0 1 n0) (t1 : ta b a 1 n1) (g : cg sp dp n n0 n1) (hF : 1 ≤ F) (hLo : rx_words r + 18 ≤ Lo) {x1 : cS} (e1 : pCL x a0 a sp dp n = x1) (kk : rs P mi F Lo pc' lv r (hq b x1 y w) Q) : rs P mi F Lo pc lv (.int n :: .int dp :: .ref a :: .int sp :: .ref a0 :: r) (hq b x y w) Q := by
  subst e1
  have e0 : (hq b x y w)[a0]? = some (.inl (1, n0, .inr (.inl (x.2 a0)))) := hq_at t0.1 t0.2
  have e2 : (hq b x y w)[a]? = some (.inl (1, n1, .inr (.inl (x.2 a)))) := hq_at t1.1 t1.2
  have hset : (hq b x y w).set a (.inl (1, n1, .inr (.inl (va_cpy (x.2 a0) (x.2 a) (ix sp) (ix dp) (ix n))))) = hq b (pCL x a0 a sp dp n) y w := hq_set (x := x) (x' := pCL x a0 a sp dp n) t1.1 t1.2 (fun _ _ => rfl) (fun k hk => if_neg hk) (by
    show _ = Sum.inl (1, n1, Sum.inr (Sum.inl ((pCL x a0 a sp dp n).2 a)))
    rw [show (pCL x a0 a sp dp n).2 a = va_cpy (x.2 a0) (x.2 a) (ix sp) (ix dp) (ix n) from if_pos rfl])
  refine rs_cpy h hct hq' (r := r) (L' := hq b (pCL x a0 a sp dp n) y w) ?_ hF hLo kk
  unfold rx_cpy
  simp only [e0, e2]
  rw [if_pos ⟨trivial, trivial, g⟩, hset]
theorem rs_ldcwS {idx k : Nat} (h : ri P mi pc (.ldc_w idx) pc') (hk : rx_kt P mi idx = some (.ref k)) (kk : rs P mi F Lo pc' lv (.ref k :: st) L Q) : rs P mi F Lo pc lv st L Q := by
  refine rs_heap h rfl rfl rfl ?_ kk
  unfold rx_heap
  simp only [hk]
theorem ci_Tk : rx_ci (rt_P sc fm) rx_Tk = some (17, fun j => rt_Tk.getD j 0) := by
  show rt_ci sc rx_Tk = _
  unfold rt_ci
  rw [show Nat.beq rx_Tk rx_S = false by decide, show Nat.beq rx_Tk rx_Tk = true by decide]
theorem ci_Gv : rx_ci (rt_P sc fm) rx_Gv = some (17, fun j => rt_Gv.getD j 0) := by
  show rt_ci sc rx_Gv = _
  unfold rt_ci
  rw [show Nat.beq rx_Gv rx_S = false by decide, show Nat.beq rx_Gv rx_Tk = false by decide, show Nat.beq rx_Gv rx_Gv = true by decide]
theorem dq_ciTk {i : Int32} {r : List Value} (h : ri (rt_P sc fm) mi pc .iaload pc') (hL : L.length ≤ rx_B) (g : ib i 17) (kk : rs (rt_P sc fm) mi F Lo pc' lv (.int (rt_Tk.getD (ix i) 0) :: r) L Q) : rs (rt_P sc fm) mi F Lo pc lv (.int i :: .ref rx_Tk :: r) L Q :=
  rs_sald h (List.getElem?_eq_none (Nat.le_trans hL rx_Tk_B)) ci_Tk g kk
theorem dq_ciGv {i : Int32} {r : List Value} (h : ri (rt_P sc fm) mi pc .iaload pc') (hL : L.length ≤ rx_B) (g : ib i 17) (kk : rs (rt_P sc fm) mi F Lo pc' lv (.int (rt_Gv.getD (ix i) 0) :: r) L Q) : rs (rt_P sc fm) mi F Lo pc lv (.int i :: .ref rx_Gv :: r) L Q :=
  rs_sald h (List.getElem?_eq_none (Nat.le_trans hL rx_Gv_B)) ci_Gv g kk
end DC
