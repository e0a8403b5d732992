/-! THE ABSTRACT MACHINE, part c: cells, worlds, what touches the heap -/
abbrev rx_Ar : Type := (Nat → Int32) ⊕ (Nat → Int64) ⊕ (Nat → UInt32) ⊕ (Nat → UInt64) ⊕ (Nat → Option Nat)
def rx_arr (ad : Nat → Nat) : rx_Ar → rx_Ar
  | .inl f => .inl f
  | .inr (.inl f) => .inr (.inl f)
  | .inr (.inr (.inl f)) => .inr (.inr (.inl f))
  | .inr (.inr (.inr (.inl f))) => .inr (.inr (.inr (.inl f)))
  | .inr (.inr (.inr (.inr f))) => .inr (.inr (.inr (.inr (fun j => (f j).map ad))))
/-- a cell of the abstract machine (an array's class is the number of its type) as a world's -/
def rx_e (ad : Nat → Nat) (dA : Nat → ClassId) : va_E → va_E
  | .inl (t, n, x) => .inl (dA t, n, rx_arr ad x)
  | .inr (ci, fs) => .inr (ci, fs.map (rx_v ad))
def rx_cw (ad : Nat → Nat) (dA : Nat → ClassId) : Nat → List va_E → va_W
  | _, [] => []
  | b, x :: r => (ad b, rx_e ad dA x) :: rx_cw ad dA (b + 1) r
theorem rx_cw_get (ad : Nat → Nat) (dA : Nat → ClassId) : ∀ (L : List va_E) (b k : Nat), (rx_cw ad dA b L)[k]? = (L[k]?).map (fun x => (ad (b + k), rx_e ad dA x))
  | [], b, k => by simp [rx_cw]
  | x :: r, b, 0 => by simp [rx_cw]
  | x :: r, b, k + 1 => by
    simp only [rx_cw, List.getElem?_cons_succ]
    rw [rx_cw_get ad dA r (b + 1) k, show b + 1 + k = b + (k + 1) by omega]
theorem rx_cw_set (ad : Nat → Nat) (dA : Nat → ClassId) (y : va_E) : ∀ (L : List va_E) (b k : Nat), (rx_cw ad dA b L).set k (ad (b + k), rx_e ad dA y) = rx_cw ad dA b (L.set k y)
  | [], b, k => by simp [rx_cw]
  | x :: r, b, 0 => by simp [rx_cw]
  | x :: r, b, k + 1 => by
    simp only [rx_cw, List.set_cons_succ]
    rw [show b + (k + 1) = b + 1 + k by omega, rx_cw_set ad dA y r (b + 1) k]
theorem rx_cw_app (ad : Nat → Nat) (dA : Nat → ClassId) (y : va_E) : ∀ (L : List va_E) (b : Nat), rx_cw ad dA b (L ++ [y]) = rx_cw ad dA b L ++ [(ad (b + L.length), rx_e ad dA y)]
  | [], b => by simp [rx_cw]
  | x :: r, b => by
    simp only [rx_cw, List.cons_append, List.length_cons]
    rw [rx_cw_app ad dA y r (b + 1), show b + 1 + r.length = b + (r.length + 1) by omega]
/-- addresses that mean something: cells that are there, constants -/
def rx_in (n k : Nat) : Prop := k < n ∨ rx_B ≤ k
def rx_okv (n : Nat) (v : Value) : Prop := ∀ k, v = .ref k → rx_in n k
def rx_oka (n : Nat) (x : rx_Ar) : Prop := ∀ f : Nat → Option Nat, x = .inr (.inr (.inr (.inr f))) → ∀ j k, f j = some k → rx_in n k
def rx_oke (n : Nat) (x : va_E) : Prop := (∀ t N y, x = .inl (t, N, y) → rx_oka n y) ∧ ∀ ci fs, x = .inr (ci, fs) → ∀ v ∈ fs, rx_okv n v
def rx_ok (n : Nat) (L : List va_E) : Prop := ∀ x ∈ L, rx_oke n x
def rx_ext (n : Nat) (ad ad' : Nat → Nat) : Prop := ∀ k, rx_in n k → ad' k = ad k
theorem rx_ext.rf {n : Nat} {ad : Nat → Nat} : rx_ext n ad ad := fun _ _ => rfl
theorem rx_in.mono {n n' k : Nat} (h : rx_in n k) (hn : n ≤ n') : rx_in n' k := h.elim (fun q => Or.inl (by omega)) Or.inr
theorem rx_okv.mono {n n' : Nat} {v : Value} (h : rx_okv n v) (hn : n ≤ n') : rx_okv n' v := fun k e => (h k e).mono hn
theorem rx_ext.trans {n n' : Nat} {a b d : Nat → Nat} (h : rx_ext n a b) (hn : n ≤ n') (g : rx_ext n' b d) : rx_ext n a d := fun k hk => (g k (hk.mono hn)).trans (h k hk)
theorem rx_ext.up {n q : Nat} {ad : Nat → Nat} (hn : n < rx_B) : rx_ext n ad (va_up ad n q) := fun k hk => va_up_ne _ _ (by rcases hk with h | h <;> omega)
theorem rx_v_ext {n : Nat} {ad ad' : Nat → Nat} {v : Value} (h : rx_okv n v) (he : rx_ext n ad ad') : rx_v ad' v = rx_v ad v := by
  cases v <;> try rfl
  rename_i k
  exact congrArg Value.ref (he k (h k rfl))
theorem rx_vs_ext {n : Nat} {ad ad' : Nat → Nat} {vs : List Value} (h : ∀ v ∈ vs, rx_okv n v) (he : rx_ext n ad ad') : vs.map (rx_v ad') = vs.map (rx_v ad) :=
  List.map_congr_left fun v hv => rx_v_ext (h v hv) he
theorem rx_arr_ext {n : Nat} {ad ad' : Nat → Nat} {x : rx_Ar} (h : rx_oka n x) (he : rx_ext n ad ad') : rx_arr ad' x = rx_arr ad x := by
  rcases x with f | f | f | f | f <;> try rfl
  show (Sum.inr (Sum.inr (Sum.inr (Sum.inr fun j => (f j).map ad'))) : rx_Ar) = Sum.inr (Sum.inr (Sum.inr (Sum.inr fun j => (f j).map ad)))
  have e : (fun j => (f j).map ad') = fun j => (f j).map ad := by
    funext j
    cases hj : f j with
    | none => rfl
    | some k => exact congrArg some (he k (h f rfl j k hj))
  rw [e]
theorem rx_e_ext {n : Nat} {ad ad' : Nat → Nat} {dA : Nat → ClassId} {x : va_E} (h : rx_oke n x) (he : rx_ext n ad ad') : rx_e ad' dA x = rx_e ad dA x := by
  rcases x with ⟨t, N, y⟩ | ⟨ci, fs⟩
  · show (Sum.inl (dA t, N, rx_arr ad' y) : va_E) = Sum.inl (dA t, N, rx_arr ad y)
    rw [rx_arr_ext (h.1 t N y rfl) he]
  · show (Sum.inr (ci, fs.map (rx_v ad')) : va_E) = Sum.inr (ci, fs.map (rx_v ad))
    rw [rx_vs_ext (h.2 ci fs rfl) he]
theorem rx_cw_ext {n : Nat} {ad ad' : Nat → Nat} {dA : Nat → ClassId} (he : rx_ext n ad ad') : ∀ (L : List va_E) (b : Nat), rx_ok n L → b + L.length ≤ n → rx_cw ad' dA b L = rx_cw ad dA b L
  | [], b, _, _ => rfl
  | x :: r, b, h, hb => by
    simp only [List.length_cons] at hb
    simp only [rx_cw]
    rw [rx_e_ext (h x List.mem_cons_self) he, he b (Or.inl (by omega)), rx_cw_ext he r (b + 1) (fun y hy => h y (List.mem_cons_of_mem _ hy)) (by omega)]
theorem rx_oka.mono {n n' : Nat} {x : rx_Ar} (h : rx_oka n x) (hn : n ≤ n') : rx_oka n' x := fun f e j k hk => (h f e j k hk).mono hn
theorem rx_oke.mono {n n' : Nat} {x : va_E} (h : rx_oke n x) (hn : n ≤ n') : rx_oke n' x := ⟨fun t N y e => (h.1 t N y e).mono hn, fun ci fs e v hv => (h.2 ci fs e v hv).mono hn⟩
theorem rx_ok.mono {n n' : Nat} {L : List va_E} (h : rx_ok n L) (hn : n ≤ n') : rx_ok n' L := fun x hx => (h x hx).mono hn
theorem rx_ok.set {n k : Nat} {L : List va_E} {y : va_E} (h : rx_ok n L) (hy : rx_oke n y) : rx_ok n (L.set k y) := fun x hx => by
  rcases List.mem_or_eq_of_mem_set hx with q | q
  · exact h x q
  · rw [q]; exact hy
theorem rx_ok.push {n : Nat} {L : List va_E} {y : va_E} (h : rx_ok n L) (hy : rx_oke n y) : rx_ok n (L ++ [y]) := fun x hx => by
  rcases List.mem_append.mp hx with q | q
  · exact h x q
  · rw [List.mem_singleton.mp q]; exact hy
/-- the types of arrays, by their numbers -/
def rx_ty : List FieldType := [.int, .long, .byte, .boolean, .object "MarkHouse$Order", .object "MarkHouse$Kind", .object "java/lang/String"]
def rx_tysF (dA : Nat → ClassId) : Nat → List FieldType → List (ClassId × FieldType)
  | _, [] => []
  | b, x :: r => (dA b, x) :: rx_tysF dA (b + 1) r
abbrev rx_tys (dA : Nat → ClassId) : List (ClassId × FieldType) := rx_tysF dA 0 rx_ty
theorem rx_tys_get (dA : Nat → ClassId) : ∀ (L : List FieldType) (b k : Nat), (rx_tysF dA b L)[k]? = (L[k]?).map (fun x => (dA (b + k), x))
  | [], b, k => by simp [rx_tysF]
  | x :: r, b, 0 => by simp [rx_tysF]
  | x :: r, b, k + 1 => by
    simp only [rx_tysF, List.getElem?_cons_succ]
    rw [rx_tys_get dA r (b + 1) k, show b + 1 + k = b + (k + 1) by omega]
theorem rx_ty_at {dA : Nat → ClassId} {t : Nat} {ty : FieldType} (h : rx_ty[t]? = some ty) : (rx_tys dA)[t]? = some (dA t, ty) := by
  rw [rx_tys_get, h]
  simp
theorem rx_at {ad : Nat → Nat} {dA : Nat → ClassId} {L : List va_E} {k : Nat} {x : va_E} (h : L[k]? = some x) : (rx_cw ad dA 0 L)[k]? = some (ad k, rx_e ad dA x) := by
  rw [rx_cw_get, h]
  simp
/-- the world of a body: the cells, apart, nothing else written, its addresses in order -/
def rx_Wd (D : va_G) (dA : Nat → ClassId) (A : Nat → Prop) (ad : Nat → Nat) (L : List va_E) (s : State) (H : Heap) (locs : List Loc) : Prop :=
  va_P D vwCl (rx_cw ad dA 0 L) H ∧ va_D A (rx_cw ad dA 0 L) ∧ va_S A s.heap H locs ∧ rx_ok L.length L ∧ L.length ≤ rx_B
theorem rx_Wd.put {D : va_G} {dA : Nat → ClassId} {A : Nat → Prop} {ad : Nat → Nat} {L : List va_E} {s : State} {H H1 : Heap} {locs locs1 : List Loc} {k : Nat} {y : va_E} (h : rx_Wd D dA A ad L s H locs) (hy : rx_oke L.length y)
    (h1 : va_P D vwCl ((rx_cw ad dA 0 L).set k (ad k, rx_e ad dA y)) H1) (h2 : va_D A ((rx_cw ad dA 0 L).set k (ad k, rx_e ad dA y))) (h3 : va_S A s.heap H1 locs1) : rx_Wd D dA A ad (L.set k y) s H1 locs1 := by
  have e := rx_cw_set ad dA y L 0 k
  rw [Nat.zero_add] at e
  rw [e] at h1 h2
  exact ⟨h1, h2, h3, by rw [List.length_set]; exact h.2.2.2.1.set hy, by rw [List.length_set]; exact h.2.2.2.2⟩
theorem rx_Wd.new {D : va_G} {dA : Nat → ClassId} {A : Nat → Prop} {ad : Nat → Nat} {L : List va_E} {s : State} {H H1 : Heap} {locs locs1 : List Loc} {q : Nat} {y : va_E} (h : rx_Wd D dA A ad L s H locs) (hl : L.length < rx_B) (hy : rx_oke L.length y)
    (h1 : va_P D vwCl (rx_cw ad dA 0 L ++ [(q, rx_e ad dA y)]) H1) (h2 : va_D A (rx_cw ad dA 0 L ++ [(q, rx_e ad dA y)])) (h3 : va_S A s.heap H1 locs1) : rx_Wd D dA A (va_up ad L.length q) (L ++ [y]) s H1 locs1 := by
  have he : rx_ext L.length ad (va_up ad L.length q) := rx_ext.up hl
  have e : rx_cw (va_up ad L.length q) dA 0 (L ++ [y]) = rx_cw ad dA 0 L ++ [(q, rx_e ad dA y)] := by
    rw [rx_cw_app, rx_cw_ext he L 0 h.2.2.2.1 (by omega), rx_e_ext hy he, Nat.zero_add, va_up_self]
  refine ⟨by rw [e]; exact h1, by rw [e]; exact h2, h3, ?_, ?_⟩
  · rw [List.length_append, List.length_singleton]
    exact (h.2.2.2.1.push hy).mono (by omega)
  · rw [List.length_append, List.length_singleton]
    omega
