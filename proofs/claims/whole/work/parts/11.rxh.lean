/-! THE ABSTRACT MACHINE, part h: constants move along; what a body's run is -/
section RXH
variable {P : rx_P} {A B : Nat → Prop} {ad : Nat → Nat}
theorem rx_KC.at {s U : State} {H : Heap} {locs : List Loc} (h : rx_KC P A ad s s.heap) (hW : s.WarmedH U.vm) (hS : va_S A s.heap H locs) : rx_KC P A ad U H := by
  obtain ⟨h1, h2, h3, h4, h5, h6, h7, h8, h9, h10⟩ := h
  refine ⟨fun mi idx k hk => ?_, fun i bs hb => ?_, fun mi idx v hv => ?_, fun t C ht => ?_, fun mi idx kd mj n hc hk => ?_, fun a n f hf => ?_, fun mi pc E hpc k hk => ?_, ?_, ?_, fun mi pc E nf nl hx => ?_⟩
  · obtain ⟨g, tx, g2⟩ := h1 mi idx k hk
    exact ⟨g, tx, vk_R.warm hW g2⟩
  · obtain ⟨a1, a2, a3, a4⟩ := h2 i bs hb
    exact ⟨(va_O.moved hW.alike a1).kept hS.2.1, (va_OF.moved hW.alike a2).kept hS.2.1, (va_OF.moved hW.alike a3).kept hS.2.1, (va_T.moved hW.alike a4).kept hS.2.1⟩
  · obtain ⟨g, C, n, d, g1, g2⟩ := h3 mi idx v hv
    exact ⟨g, C, n, d, (va_Z.moved hW.alike g1).kept hS.2.1, g2.imp id (fun ⟨host, z⟩ => ⟨host, va_Nw.warmF hW z⟩)⟩
  · exact va_AO.moved hW.alike (h4 t C ht)
  · obtain ⟨host, g⟩ := h5 mi idx kd mj n hc hk
    exact ⟨host, va_Nw.warmM hW g⟩
  · obtain ⟨g, g1⟩ := h6 a n f hf
    exact ⟨g, (va_T.moved hW.alike g1).kept hS.2.1⟩
  · rcases h7 mi pc E hpc k hk with ⟨x, suf, name, g1, g2, g3, g4, g5, g6⟩ | ⟨y, x, suf, nm1, name, g1, g2, g3, g4, g5, g6, g7, g8, g9, g10⟩
    · exact Or.inl ⟨x, suf, name, g1, g2, g3, g4, g5, va_Nw.warmC hW g6⟩
    · exact Or.inr ⟨y, x, suf, nm1, name, g1, g2, g3, g4, va_Nc.moved hW.alike g5, g6, g7, g8, g9, va_Nw.warmC hW g10⟩
  · exact (h8.moved hW.alike).kept hS.2.1
  · exact (h9.moved hW.alike).kept hS.2.1
  · rcases h10 mi pc E nf nl hx with ⟨ik, is, ic, text, sa, names, t0, t1, t2, t3, t4, t5, t6, t7⟩ | ⟨ik, is, ic, text, sa, t0, t1, t3, t4, t5, t6, t7⟩
    · refine Or.inl ⟨ik, is, ic, text, sa, names, t0, t1, t2, t3, t4, vk_R.warm hW t5, fun w hw => ?_, t7⟩
      rcases t6 w hw with z | ⟨z, y⟩
      · exact Or.inl z
      · refine Or.inr ⟨z, ?_⟩
        rcases z with ⟨a, b, rfl⟩ | ⟨x, rfl⟩
        · exact va_Nw.warmC hW y
        · exact va_Nw.warmD hW y
    · refine Or.inr ⟨ik, is, ic, text, sa, t0, t1, t3, t4, vk_R.warm hW t5, fun w hw => ?_, t7⟩
      rcases t6 w hw with z | ⟨z, y⟩
      · exact Or.inl z
      · refine Or.inr ⟨z, ?_⟩
        rcases z with ⟨a, b, rfl⟩ | ⟨x, rfl⟩
        · exact va_Nw.warmC hW y
        · exact va_Nw.warmD hW y
theorem rx_KC.narrow {s : State} {H : Heap} (h : rx_KC P A ad s H) (hAB : ∀ q, B q → A q) : rx_KC P B ad s H := by
  obtain ⟨h1, h2, h3, h4, h5, h6, h7, h8, h9, h10⟩ := h
  refine ⟨h1, fun i bs hb => ?_, fun mi idx v hv => ?_, h4, h5, fun a n f hf => ?_, h7, h8.narrow hAB, h9.narrow hAB, h10⟩
  · obtain ⟨a1, a2, a3, a4⟩ := h2 i bs hb
    exact ⟨a1.narrow hAB, a2.narrow hAB, a3.narrow hAB, a4.narrow hAB⟩
  · obtain ⟨g, C, n, d, g1, g2⟩ := h3 mi idx v hv
    exact ⟨g, C, n, d, g1.narrow hAB, g2⟩
  · obtain ⟨g, g1⟩ := h6 a n f hf
    exact ⟨g, g1.narrow hAB⟩
theorem rx_KC.same {u U : State} {H : Heap} (hv : U.vm = u.vm) (h : rx_KC P A ad u H) : rx_KC P A ad U H := by
  have hal : u.vm.Alike U.vm := by rw [hv]; exact Vm.Alike.refl _
  obtain ⟨h1, h2, h3, h4, h5, h6, h7, h8, h9, h10⟩ := h
  refine ⟨fun mi idx k hk => ?_, fun i bs hb => ?_, fun mi idx v hv' => ?_, fun t C ht => ?_, fun mi idx kd mj n hc hk => ?_, fun a n f hf => ?_, fun mi pc E hpc k hk => ?_, ?_, ?_, fun mi pc E nf nl hx => ?_⟩
  · obtain ⟨g, tx, g2⟩ := h1 mi idx k hk
    exact ⟨g, tx, vk_R.same hv g2⟩
  · obtain ⟨a1, a2, a3, a4⟩ := h2 i bs hb
    exact ⟨va_O.moved hal a1, va_OF.moved hal a2, va_OF.moved hal a3, va_T.moved hal a4⟩
  · obtain ⟨g, C, n, d, g1, g2⟩ := h3 mi idx v hv'
    exact ⟨g, C, n, d, va_Z.moved hal g1, g2.imp id (fun ⟨host, z⟩ => ⟨host, va_Nw.same rfl hv.symm z⟩)⟩
  · exact va_AO.moved hal (h4 t C ht)
  · obtain ⟨host, g⟩ := h5 mi idx kd mj n hc hk
    exact ⟨host, va_Nw.same rfl hv.symm g⟩
  · obtain ⟨g, g1⟩ := h6 a n f hf
    exact ⟨g, va_T.moved hal g1⟩
  · rcases h7 mi pc E hpc k hk with ⟨x, suf, name, g1, g2, g3, g4, g5, g6⟩ | ⟨y, x, suf, nm1, name, g1, g2, g3, g4, g5, g6, g7, g8, g9, g10⟩
    · exact Or.inl ⟨x, suf, name, g1, g2, g3, g4, g5, va_Nw.same rfl hv.symm g6⟩
    · exact Or.inr ⟨y, x, suf, nm1, name, g1, g2, g3, g4, va_Nc.moved hal g5, g6, g7, g8, g9, va_Nw.same rfl hv.symm g10⟩
  · exact h8.moved hal
  · exact h9.moved hal
  · rcases h10 mi pc E nf nl hx with ⟨ik, is, ic, text, sa, names, t0, t1, t2, t3, t4, t5, t6, t7⟩ | ⟨ik, is, ic, text, sa, t0, t1, t3, t4, t5, t6, t7⟩
    · refine Or.inl ⟨ik, is, ic, text, sa, names, t0, t1, t2, t3, t4, vk_R.same hv t5, fun w hw => ?_, t7⟩
      rcases t6 w hw with z | ⟨z, y⟩
      · exact Or.inl z
      · refine Or.inr ⟨z, ?_⟩
        rcases z with ⟨a, b, rfl⟩ | ⟨x, rfl⟩
        · exact va_Nw.same rfl hv.symm y
        · exact va_Nw.same rfl hv.symm y
    · refine Or.inr ⟨ik, is, ic, text, sa, t0, t1, t3, t4, vk_R.same hv t5, fun w hw => ?_, t7⟩
      rcases t6 w hw with z | ⟨z, y⟩
      · exact Or.inl z
      · refine Or.inr ⟨z, ?_⟩
        rcases z with ⟨a, b, rfl⟩ | ⟨x, rfl⟩
        · exact va_Nw.same rfl hv.symm y
        · exact va_Nw.same rfl hv.symm y
end RXH
/-- the code is the machine's; the words of its calls; the throws -/
def rx_OkD (P : rx_P) : Prop := ∀ mi pc ins, rx_cd P mi pc = some ins → ∃ len, decode (rx_cb P mi) pc = .ok (ins, len) ∧ (len = rx_len ins ∨ ∃ a b d f, ins = .tableswitch a b d f)
def rx_cd1 (P : rx_P) (mj : Nat) : Cond := if rx_hh P mj = [] then Cond.code (rx_yn P mj) (rx_cb P mj) (rx_ml P mj) (rx_rt P mj) else Cond.codeWith (rx_yn P mj) (rx_cb P mj) (rx_ml P mj) (rx_rt P mj) (rx_hh P mj)
def rx_OkM (P : rx_P) (mj : Nat) : Prop := plainName (rx_yn P mj).cls = true ∧ rx_cd1 P mj ∈ rx_TT ∧ Cond.initialized (rx_yn P mj).cls ∈ rx_TT ∧ (rx_yn P mj).cls ≠ "java/lang/invoke/MethodHandle" ∧ (rx_yn P mj).cls ≠ "java/lang/invoke/VarHandle"
def rx_OkI (P : rx_P) : Prop := ∀ mi idx kd mj n, rx_ct P mi idx = some (kd, mj, n) →
  (kd = 6 ∧ Cond.methodLink (rx_yn P mi).cls idx Lib.objectInit ∈ rx_TT) ∨
  (rx_OkM P mj ∧ (parseMethodDescriptor (rx_yn P mj).desc).map (fun d => d.parameters.length) = some n ∧
    ((kd = 0 ∧ rx_hh P mj = [] ∧ Cond.methodLink (rx_yn P mi).cls idx (rx_yn P mj) ∈ rx_TT ∧ Cond.instanceMethod (rx_yn P mj) ∈ rx_TT ∧ Cond.selects (rx_yn P mj).cls (rx_yn P mj) (rx_yn P mj) ∈ rx_TT) ∨
     ((kd = 1 ∨ kd = 3) ∧ (kd = 1 → rx_hh P mj = []) ∧ (kd = 3 → rx_hh P mj ≠ []) ∧ Cond.methodLink (rx_yn P mi).cls idx (rx_yn P mj) ∈ rx_TT ∧ Cond.static (rx_yn P mj) ∈ rx_TT) ∨
     (kd = 2 ∧ rx_hh P mj = [] ∧ Cond.methodLink (rx_yn P mi).cls idx (rx_yn P mj) ∈ rx_TT ∧ Cond.instanceMethod (rx_yn P mj) ∈ rx_TT ∧ (rx_yn P mj).name = "<init>" ∧ rx_rt P mj = none) ∨
     (kd = 11 ∧ rx_hh P mj = [] ∧ Cond.static (rx_yn P mj) ∈ rx_TT) ∨
     (kd = 12 ∧ rx_hh P mj = [] ∧ Cond.instanceMethod (rx_yn P mj) ∈ rx_TT ∧ (rx_yn P mj).name = "<init>" ∧ rx_rt P mj = none)))
/-- where a handler begins, what was thrown is stored -/
def rx_OkH (P : rx_P) : Prop := ∀ mi pc E hpc k, rx_ht P mi pc E = some (hpc, k) → decode (rx_cb P mi) hpc = .ok (.astore_n k, 1) ∧ (k : Nat) < rx_ml P mi
def rx_OkO : Prop := Cond.instanceMethod Lib.objectInit ∈ rx_TT ∧ Cond.code Lib.objectInit ⟨#[0xb1]⟩ 1 none ∈ rx_TT
/-- a run from here on means: the machine goes there -/
def rx_Body (P : rx_P) (l : Launch) (mi F Lo pc : Nat) (lv : rx_L) (st : List Value) (L : List va_E) (res : rx_R) : Prop :=
  ∀ (p : Program) (e : Env) (R : Room) (s : State) (m : MethodId) (args : Array Value) (below : List Frame) (meth : Method) (c : Code) (H : Heap) (locs : List Loc) (cells slots : Nat) (D : va_G) (dA : Nat → ClassId) (A : Nat → Prop) (ad : Nat → Nat) (ls : Array Slot) (Qc : Array Value → State → Outcome → State → Prop) (XC : String → State → State → Prop) (free : Addr → Prop),
    rx_Bd P mi p s m args meth c D dA A → R.frames = F → R.locals = Lo → cells + res.2.2.1 ≤ R.cells → slots + res.2.2.2 ≤ R.slots → rx_Wd D dA A ad L s H locs → rx_KC P A ad s s.heap →
    lv_has ls (rx_ml P mi) (rx_lc ad lv) → (∀ q ∈ lv, rx_okv L.length q.2) → (∀ v ∈ st, rx_okv L.length v) → (∀ q, A q → free q) →
    (∀ (ad' : Nat → Nat) (v : Option Value) (H' : Heap) (locs' : List Loc) (t : State), res.1 = .inl v → rx_ext L.length ad ad' → rx_Wd D dA A ad' res.2.1 s H' locs' → L.length ≤ res.2.1.length → (∀ w, v = some w → rx_okv res.2.1.length w) → t.heap = H' → s.WarmedH t.vm → Qc args s (.returned (v.map (rx_v ad'))) t) →
    (∀ (E : String) (ad' : Nat → Nat) (H' : Heap) (locs' : List Loc) (t : State), res.1 = .inr E → rx_ext L.length ad ad' → rx_Wd D dA A ad' res.2.1 s H' locs' → L.length ≤ res.2.1.length → t.heap = H' → s.vm.Alike t.vm → XC E s t) →
    W p l e R s m args below meth c H locs cells slots (vx_MQ below Qc XC args s R.cells R.slots free) (F0 m pc ls (st.map (rx_v ad)))
def rx_Sound (P : rx_P) (l : Launch) (rc : rx_F) : Prop := ∀ mi F Lo pc lv st L res, rc mi F Lo pc lv st L = some res → rx_Body P l mi F Lo pc lv st L res
