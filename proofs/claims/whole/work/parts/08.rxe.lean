/-! THE ABSTRACT MACHINE, part e: what its tables must be; the heap's instructions are the machine's -/
def rx_OkC : Prop := ∀ (ci : Nat) (q : vw_C), vwCl[ci]? = some q → ∃ ty : Nat → FieldType, (∀ w ∈ u_ws q.1 q.2.1 q.2.2, w ∈ rx_TT) ∧ (∀ k, k < q.2.2 → parseFieldDescriptor (q.2.1 k).2.2.1 = some (ty k)) ∧ (∀ a, a < q.2.2 → ∀ b, b < q.2.2 → a ≠ b → (q.2.1 a).2.1 ≠ (q.2.1 b).2.1)
def rx_OkF (P : rx_P) : Prop := ∀ mi idx ci k, rx_ft P mi idx = some (ci, k) → ∃ q : vw_C, vwCl[ci]? = some q ∧ k < q.2.2 ∧ Cond.fieldLink (rx_yn P mi).cls idx (q.2.1 k).1 (q.2.1 k).2.1 (q.2.1 k).2.2.1 ∈ rx_TT
def rx_OkW (P : rx_P) : Prop := ∀ mi idx ci k ty, rx_pt P mi idx = some (ci, k, ty) → ∃ q : vw_C, vwCl[ci]? = some q ∧ k < q.2.2 ∧ Cond.fieldLink (rx_yn P mi).cls idx (q.2.1 k).1 (q.2.1 k).2.1 (q.2.1 k).2.2.1 ∈ rx_TT ∧ parseFieldDescriptor (q.2.1 k).2.2.1 = some ty ∧ ((q.2.1 k).2.2.2 = false ∨ ((q.2.1 k).2.2.2 = true ∧ (rx_yn P mi).name = "<init>" ∧ (q.2.1 k).1 = (rx_yn P mi).cls))
def rx_OkK (P : rx_P) : Prop := (∀ mi idx v, rx_kt P mi idx = some (.int v) → Cond.constant (rx_yn P mi).cls idx v ∈ rx_TT) ∧ (∀ mi idx v, rx_kt P mi idx = some (.long v) → Cond.constantLong (rx_yn P mi).cls idx v ∈ rx_TT)
def rx_OkN (P : rx_P) : Prop := ∀ mi idx ci N fs, rx_nt P mi idx = some (ci, N, fs) → ∃ (q : vw_C) (ty : Nat → FieldType), vwCl[ci]? = some q ∧ q.2.2 = N ∧ Cond.classLink (rx_yn P mi).cls idx q.1 ∈ rx_TT ∧ Cond.instantiable q.1 N ∈ rx_TT ∧ Cond.initialized q.1 ∈ rx_TT ∧ (∀ k, k < N → parseFieldDescriptor (q.2.1 k).2.2.1 = some (ty k)) ∧ (∀ j, j < N → defaultValue (ty j) = vp_V fs j) ∧ ∀ v ∈ fs, ∀ k, v ≠ .ref k
def rx_OkQ (P : rx_P) : Prop := ∀ mi idx t, rx_qt P mi idx = some t → (t = 7 ∧ Cond.methodLink (rx_yn P mi).cls idx arraycopyName ∈ rx_TT ∧ Cond.native arraycopyName ∈ rx_TT ∧ Cond.static arraycopyName ∈ rx_TT ∧ Cond.initialized "java/lang/System" ∈ rx_TT) ∨ (t = 8 ∧ Cond.methodLink (rx_yn P mi).cls idx Lib.Math.max.name ∈ rx_TT ∧ Cond.static Lib.Math.max.name ∈ rx_TT ∧ Cond.initialized "java/lang/Math" ∈ rx_TT ∧ Cond.code Lib.Math.max.name Lib.Math.max.code 2 (some .int) ∈ rx_TT) ∨ (t = 9 ∧ Cond.methodLink (rx_yn P mi).cls idx Lib.Math.min.name ∈ rx_TT ∧ Cond.static Lib.Math.min.name ∈ rx_TT ∧ Cond.initialized "java/lang/Math" ∈ rx_TT ∧ Cond.code Lib.Math.min.name Lib.Math.min.code 2 (some .int) ∈ rx_TT) ∨ ∃ C : String, rx_ty[t]? = some (.object C) ∧ Cond.classLink (rx_yn P mi).cls idx C ∈ rx_TT
def rx_OkA : Prop := Cond.arrayClass .int ∈ rx_TT ∧ Cond.arrayClass .long ∈ rx_TT ∧ Cond.arrayClass .byte ∈ rx_TT ∧ Cond.arrayClass .boolean ∈ rx_TT
def rx_Ok (P : rx_P) : Prop := rx_OkC ∧ rx_OkF P ∧ rx_OkW P ∧ rx_OkK P ∧ rx_OkN P ∧ rx_OkQ P ∧ rx_OkA
/-- what is thrown at pc is caught at hpc: by the first row, or by the second where the first names another class -/
def rx_Hd (P : rx_P) (mi pc : Nat) (E : String) (hpc : Nat) (s : State) : Prop :=
  (∃ (x : ExceptionTableEntry) (suf : List ExceptionTableEntry) (name : String), tableOf (rx_hh P mi) = x :: suf ∧ covers x pc = true ∧ x.catchType ≠ 0 ∧ x.handlerPc = hpc ∧ Cond.classLink (rx_yn P mi).cls x.catchType name ∈ rx_TT ∧ va_Nw (.castable E name) s) ∨
  (∃ (y x : ExceptionTableEntry) (suf : List ExceptionTableEntry) (nm1 name : String), tableOf (rx_hh P mi) = y :: x :: suf ∧ covers y pc = true ∧ y.catchType ≠ 0 ∧ Cond.classLink (rx_yn P mi).cls y.catchType nm1 ∈ rx_TT ∧ va_Nc E nm1 s ∧ covers x pc = true ∧ x.catchType ≠ 0 ∧ x.handlerPc = hpc ∧ Cond.classLink (rx_yn P mi).cls x.catchType name ∈ rx_TT ∧ va_Nw (.castable E name) s)
/-- words that move along though they are no good words -/
def rx_ng (w : Cond) : Prop := (∃ a b, w = .castable a b) ∨ ∃ x, w = .declares x
/-- what is thrown at pc, with its text -/
def rx_KT (P : rx_P) (mi pc : Nat) (E : String) (nf nl : Nat) (s : State) (ik is ic : Nat) (text : String) (sa : Nat) (names : List String) : Prop :=
  rx_hh P mi = [] ∧ Bundle.fit E = true ∧ (∀ n ∈ names, Bundle.fit n = true) ∧ Cond.classLink (rx_yn P mi).cls ik E ∈ rx_TT ∧ Cond.initialized E ∈ rx_TT ∧ vk_R (rx_yn P mi).cls is text sa s ∧ (∀ w ∈ vx_atS (rx_yn P mi).cls ic E names, w ∈ rx_TT ∨ (rx_ng w ∧ va_Nw w s)) ∧ (∀ w ∈ Cond.classLink (rx_yn P mi).cls ik E :: Cond.initialized E :: vx_atS (rx_yn P mi).cls ic E names, vx_ot w = true) ∧
  decode (rx_cb P mi) pc = .ok (.new ik, 3) ∧ decode (rx_cb P mi) (pc + 3) = .ok (.dup, 1) ∧ ((decode (rx_cb P mi) (pc + 4) = .ok (.ldc is, 2) ∧ decode (rx_cb P mi) (pc + 6) = .ok (.invokespecial ic, 3) ∧ decode (rx_cb P mi) (pc + 9) = .ok (.athrow, 1)) ∨ (decode (rx_cb P mi) (pc + 4) = .ok (.ldc_w is, 3) ∧ decode (rx_cb P mi) (pc + 7) = .ok (.invokespecial ic, 3) ∧ decode (rx_cb P mi) (pc + 10) = .ok (.athrow, 1))) ∧ names.length + 3 ≤ nf ∧ 13 * (names.length + 1) + 43 ≤ nl
/-- the same of NoSuchElementException -/
def rx_KN (P : rx_P) (mi pc : Nat) (E : String) (nf nl : Nat) (s : State) (ik is ic : Nat) (text : String) (sa : Nat) : Prop :=
  rx_hh P mi = [] ∧ E = nE ∧ Cond.classLink (rx_yn P mi).cls ik nE ∈ rx_TT ∧ Cond.initialized nE ∈ rx_TT ∧ vk_R (rx_yn P mi).cls is text sa s ∧ (∀ w ∈ n_at (rx_yn P mi).cls ic, w ∈ rx_TT ∨ (rx_ng w ∧ va_Nw w s)) ∧ (∀ w ∈ Cond.classLink (rx_yn P mi).cls ik nE :: Cond.initialized nE :: n_at (rx_yn P mi).cls ic, vx_ot w = true) ∧
  decode (rx_cb P mi) pc = .ok (.new ik, 3) ∧ decode (rx_cb P mi) (pc + 3) = .ok (.dup, 1) ∧ decode (rx_cb P mi) (pc + 4) = .ok (.ldc_w is, 3) ∧ decode (rx_cb P mi) (pc + 7) = .ok (.invokespecial ic, 3) ∧ decode (rx_cb P mi) (pc + 10) = .ok (.athrow, 1) ∧ 5 ≤ nf ∧ 82 ≤ nl
def rx_KX (P : rx_P) (A : Nat → Prop) (s : State) (H : Heap) : Prop := vx_Zq Bundle.tN "UNASSIGNED_STACK" Bundle.steD A s H ∧ vx_Zq Bundle.tN "SUPPRESSED_SENTINEL" Bundle.listD A s H ∧ ∀ mi pc E nf nl, rx_xt P mi pc = some (E, nf, nl) → (∃ ik is ic text sa names, rx_KT P mi pc E nf nl s ik is ic text sa names) ∨ ∃ ik is ic text sa, rx_KN P mi pc E nf nl s ik is ic text sa
/-- what is known of constants: texts, statics, array classes, links to members of the nest -/
def rx_KC (P : rx_P) (A : Nat → Prop) (ad : Nat → Nat) (s : State) (H : Heap) : Prop :=
  (∀ mi idx k, rx_kt P mi idx = some (.ref k) → rx_B ≤ k ∧ ∃ tx, vk_R (rx_yn P mi).cls idx tx (ad k) s) ∧
  (∀ i bs, rx_sb P i = some bs → va_O "java/lang/String" (ad (rx_K i)) A s H ∧ va_OF "java/lang/String" "coder" "B" (.int 0) (ad (rx_K i)) A s H ∧ va_OF "java/lang/String" "value" "[B" (.ref (ad (rx_V i))) (ad (rx_K i)) A s H ∧ va_T .byte (ad (rx_V i)) bs.length (fun j => .int (bs.getD j 0)) A s H) ∧
  (∀ mi idx v, rx_gt P mi idx = some v → (∀ k, v = .ref k → rx_B ≤ k) ∧ ∃ C n d, va_Z C n d (rx_v ad v) A s H ∧ (Cond.fieldLink (rx_yn P mi).cls idx C n d ∈ rx_TT ∨ ∃ host, va_Nw (.fieldLinkNest (rx_yn P mi).cls idx C n d host) s)) ∧
  (∀ (t : Nat) (C : String), rx_ty[t]? = some (FieldType.object C) → va_AO C s) ∧
  (∀ mi idx kd mj n, rx_ct P mi idx = some (kd, mj, n) → 10 ≤ kd → ∃ host, va_Nw (.methodLinkNest (rx_yn P mi).cls idx (rx_yn P mj) host) s) ∧
  (∀ a n f, rx_ci P a = some (n, f) → rx_B ≤ a ∧ va_T .int (ad a) n (fun j => .int (f j)) A s H) ∧
  (∀ mi pc E hpc k, rx_ht P mi pc E = some (hpc, k) → rx_Hd P mi pc E hpc s) ∧ rx_KX P A s H
theorem rx_vin {i : Int32} {n : Nat} (h : ¬ (i < 0 ∨ n ≤ i.toNatClampNeg)) : vp_in i n := h
theorem rx_mem_at {L : List va_E} {k : Nat} {x : va_E} (h : L[k]? = some x) : x ∈ L := List.mem_of_getElem? h
theorem rx_prim {s : State} {D : va_G} {dA : Nat → ClassId} {t : Nat} {ty : FieldType} {cA : ClassId} (hne : ∀ C, ty ≠ .object C) (ht : rx_ty[t]? = some ty) (hK : va_K D vwCl (rx_tys dA ++ [(cA, ty)]) s) : cA = dA t := by
  have h1 := (hK.2 t (dA t, ty) (by rw [List.getElem?_append_left (by exact (List.getElem?_eq_some_iff.mp (rx_ty_at (dA := dA) ht)).1)]; exact rx_ty_at ht)).2
  have h2 := (hK.2 (rx_tys dA).length (cA, ty) (by simp)).2
  cases ty <;> first | exact absurd rfl (hne _) | exact Option.some.inj (Eq.trans (Eq.symm h2) h1)
theorem rx_refs {s : State} {D : va_G} {dA : Nat → ClassId} {t : Nat} {C : String} {cA : ClassId} (ht : rx_ty[t]? = some (.object C)) (hK : va_K D vwCl (rx_tys dA ++ [(cA, .object C)]) s) : cA = dA t := by
  have h1 := (hK.2 t (dA t, .object C) (by rw [List.getElem?_append_left (by exact (List.getElem?_eq_some_iff.mp (rx_ty_at (dA := dA) ht)).1)]; exact rx_ty_at ht)).2
  have h2 := (hK.2 (rx_tys dA).length (cA, .object C) (by simp)).2
  obtain ⟨_, _, _, _, _, g1⟩ := h1
  obtain ⟨_, _, _, _, _, g2⟩ := h2
  exact Option.some.inj (g2.symm.trans g1)
theorem rx_okv_nr {n : Nat} {v : Value} (h : ∀ k, v ≠ .ref k) : rx_okv n v := fun k e => absurd e (h k)
theorem rx_ok_tl {n : Nat} {v : Value} {r : List Value} (h : ∀ w ∈ v :: r, rx_okv n w) : ∀ w ∈ r, rx_okv n w := fun w hw => h w (List.mem_cons_of_mem _ hw)
theorem rx_ok_cn {n : Nat} {v : Value} {r : List Value} (hv : rx_okv n v) (h : ∀ w ∈ r, rx_okv n w) : ∀ w ∈ v :: r, rx_okv n w := fun w hw => (List.mem_cons.mp hw).elim (fun e => by rw [e]; exact hv) (h w)
theorem rx_oke_i {n t N : Nat} {f : Nat → Int32} : rx_oke n (.inl (t, N, .inl f)) := ⟨fun _ _ y e f' e' => (by cases e; cases e'), fun _ _ e => (by cases e)⟩
theorem rx_oke_l {n t N : Nat} {f : Nat → Int64} : rx_oke n (.inl (t, N, .inr (.inl f))) := ⟨fun _ _ y e f' e' => (by cases e; cases e'), fun _ _ e => (by cases e)⟩
theorem rx_oke_q {n t N : Nat} {f : Nat → Option Nat} (h : ∀ j k, f j = some k → rx_in n k) : rx_oke n (.inl (t, N, .inr (.inr (.inr (.inr f))))) := ⟨fun _ _ y e f' e' => (by cases e; cases e'; exact h), fun _ _ e => (by cases e)⟩
theorem rx_oke_o {n ci : Nat} {fs : List Value} (h : ∀ v ∈ fs, rx_okv n v) : rx_oke n (.inr (ci, fs)) := ⟨fun _ _ _ e => (by cases e), fun _ _ e v hv => (by cases e; exact h v hv)⟩
theorem rx_oke_qi {n t N : Nat} {f : Nat → Option Nat} (h : rx_oke n (.inl (t, N, .inr (.inr (.inr (.inr f)))))) {j k : Nat} (hk : f j = some k) : rx_in n k := h.1 _ _ _ rfl f rfl j k hk
