/-! CAUGHT BY THE CALLER: the first row of its table, or the second where the first names another class -/
section RXM
variable {e : Env} {s : State} {f : JFrame} {a : Addr}
def rx_Fs (e : Env) (f : JFrame) (a : Addr) (t : List ExceptionTableEntry) (s : State) (h : Handler) (s' : State) : Prop := ∀ (Q : Handler → Pre) (E : CtlPost) (d : Bool) (acts : List Action), wp (findHandler.go f a t) Q E e d acts s ↔ Q h d acts s'
theorem rx_Fs_hit {x : ExceptionTableEntry} {t : List ExceptionTableEntry} {c : ClassId} {vm' : Vm} {cell : Cell} (hx : covers x f.pc = true) (h0 : x.catchType ≠ 0) (hg : (Jvm.resolveClass f.method.cls x.catchType).Gives e.toSetting s.vm (.ok c) vm') (hsz : vm'.classes.size ≤ s.vm.classes.size)
    (hcell : s.heap[a]? = some cell) (hobj : ∀ k, cell.vm ≠ .statics k) (hk : ∃ k, vm'.classes[cell.cls]? = some k) (hc : ∃ k, vm'.classes[c]? = some k) (hfit : vm'.assignable cell.cls c = true) : rx_Fs e f a (x :: t) s (.found x.handlerPc) (s.setVm vm') := by
  intro Q E d acts
  obtain ⟨ha, ht⟩ := hg.op (op := VmOp.resolveClass f.method.cls x.catchType) rfl
  simp only [covers] at hx
  simp [findHandler.go, hx, h0, ha, ht, hsz, hcell, hobj, hk, hc, hfit, VmOp.dirties, VmOp.acts]
theorem rx_Fs_miss {x : ExceptionTableEntry} {t : List ExceptionTableEntry} {c : ClassId} {vm' : Vm} {cell : Cell} {h : Handler} {s'' : State} (hx : covers x f.pc = true) (h0 : x.catchType ≠ 0) (hg : (Jvm.resolveClass f.method.cls x.catchType).Gives e.toSetting s.vm (.ok c) vm') (hsz : vm'.classes.size ≤ s.vm.classes.size)
    (hcell : s.heap[a]? = some cell) (hobj : ∀ k, cell.vm ≠ .statics k) (hk : ∃ k, vm'.classes[cell.cls]? = some k) (hc : ∃ k, vm'.classes[c]? = some k) (hfit : vm'.assignable cell.cls c = false) (hn : rx_Fs e f a t (s.setVm vm') h s'') : rx_Fs e f a (x :: t) s h s'' := by
  intro Q E d acts
  obtain ⟨ha, ht⟩ := hg.op (op := VmOp.resolveClass f.method.cls x.catchType) rfl
  have hn' := hn
  unfold rx_Fs at hn'
  simp only [covers] at hx
  simp [findHandler.go, hx, h0, ha, ht, hsz, hcell, hobj, hk, hc, hfit, hn', VmOp.dirties, VmOp.acts]
theorem rx_stepCatch {r : List Frame} {pc : Nat} {vm' : Vm} (hfind : ∀ (Q : Handler → Pre) (E : CtlPost) (d : Bool) (acts : List Action), wp (findHandler f a) Q E e d acts s ↔ Q (.found pc) d acts (s.setVm vm')) :
    (stepThrowing e s a (.java f :: r)).Is ((s.setVm vm').setFrames (.java { f with pc := pc, stack := [.ref a] } :: r)) [] := by
  simp only [stepThrowing, searchFrame, vmDo]
  generalize hr : Sem.go _ e false [] s = res
  obtain ⟨as, rfl, ha⟩ := Sem.eq_ok_of hr (a := Handler.found pc) (s' := s.setVm vm') (acts' := []) (by simp [hfind _ _ _ _])
  exact ⟨rfl, ha⟩
end RXM
section RXN
variable {p : Program} {l : Launch} {e : Env} {R : Room} {s : State} {m : MethodId} {args : Array Value} {below : List Frame} {meth : Method} {c : Code} {T : State} {H : Heap} {locs : List Loc} {cells slots : Nat} {Q : State → Prop}
theorem rx_caughtAt (X : Stand p l e R s m args below meth c T locs cells slots) {g : JFrame} (hg : g.method = m) {q : Addr} {pc : Nat} {vm' : Vm} (X' : Stand p l e R s m args below meth c (T.setVm vm') locs cells slots)
    (hfind : rx_Fs e g q c.exceptionTable.toList ((T.setTop g).pushFrame (.throwing q)) (.found pc) (((T.setTop g).pushFrame (.throwing q)).setVm vm')) :
    ∀ tg, Steps p.tables e below ((T.setVm vm').setTop { g with pc := pc, stack := [.ref q] }) tg → Steps p.tables e below ((T.setTop g).pushFrame (.throwing q)) tg := by
  subst hg
  intro tg hrest
  have h : At T g.method c below := X.here
  obtain ⟨hgo, hw⟩ := h.throwing q
  refine Steps.head hgo hw ?_
  have hm : ((T.setTop g).pushFrame (.throwing q)).vm.method? g.method = some meth := by simpa [State.pushFrame, State.setFrames] using X.method'
  rw [stepThread_throwing (frames_entered h.top _), (rx_stepCatch (s := (T.setTop g).pushFrame (.throwing q)) (vm' := vm') (fun Q E d acts => (W.findHandler_eq hm X.code).trans (hfind Q E d acts))).1]
  obtain ⟨g₀, hg0⟩ := Option.isSome_iff_exists.mp h.top
  obtain ⟨r, hr⟩ := State.topJava?_eq_some.mp hg0
  have hr' : (T.setVm vm').frames = .java g₀ :: r := hr
  rw [State.setTop_of_frames _ hr'] at hrest
  have e1 : (((T.setTop g).pushFrame (.throwing q)).setVm vm').setFrames (.java { g with pc := pc, stack := [.ref q] } :: T.frames.tail) = (T.setVm vm').setFrames (.java { g with pc := pc, stack := [.ref q] } :: r) := by
    rw [hr]
    rw [State.pushFrame, State.setTop_of_frames _ hr, State.setFrames_setFrames]
    generalize (T.setFrames (.java g :: r)).frames = fr
    show ((T.setVm vm').setFrames (.throwing q :: fr)).setFrames (.java { g with pc := pc, stack := [.ref q] } :: r) = _
    rw [State.setFrames_setFrames]
  rw [e1]
  exact hrest
end RXN
section RXO
variable {p : Program} {l : Launch} {e : Env} {R : Room} {s : State} {m : MethodId} {args : Array Value} {below : List Frame} {meth : Method} {c : Code} {H : Heap} {locs : List Loc} {cells slots : Nat} {Q : State → Prop}
theorem rx_catch1 {own name E : String} {ce : Cell} {q : Addr} {x : ExceptionTableEntry} {suf : List ExceptionTableEntry} {pc : Nat} {ls : Array Slot} {rest : List Value} (hown : s.vm.findClass own = some m.cls) (htab : c.exceptionTable.toList = x :: suf) (hx : covers x pc = true) (h0 : x.catchType ≠ 0)
    (hlink : (Cond.classLink own x.catchType name).before args s = true) (hcast : (Cond.castable E name).before args s = true) (hcell : H[q]? = some ce) (hv : ce.vm = .none) (hcl : s.vm.findClass E = some ce.cls)
    (kk : W p l e R s m args below meth c H locs cells slots Q (F0 m x.handlerPc ls [.ref q])) : vx_W p l e R s m args below meth c H locs cells slots Q (F0 m pc ls rest) q := by
  intro T hT X
  have hpl : e.platform.magicAccessors = ({} : Platform).magicAccessors := by rw [X.admits.platform]
  obtain ⟨c3, c4, hc3, hc4, hasg⟩ := Cond.castable_spec hcast
  cases Option.some.inj (hc3.symm.trans hcl)
  obtain ⟨c5, hc5, hcl5⟩ := Cond.classLink_spec hown hlink e.platform hpl
  cases Option.some.inj (hc4.symm.trans hc5)
  obtain ⟨hg₁, hwarm₁, hready₁⟩ := State.classEntry (e := e) X.warmed hcl5
  generalize T.vm.noted m.cls x.catchType (.cls c4) = vm₁ at hg₁ hwarm₁ hready₁
  have X₁ := X.noted hwarm₁
  have hsz : vm₁.classes.size ≤ T.vm.classes.size := by no_record
  have hk1 : ∃ k, vm₁.classes[ce.cls]? = some k := by
    obtain ⟨k9, h9, -⟩ := Vm.findClass_spec hcl
    obtain ⟨k8, h8, -⟩ := hwarm₁.alike.2.2 _ _ h9
    exact ⟨k8, h8⟩
  have hk2 : ∃ k, vm₁.classes[c4]? = some k := by
    obtain ⟨k9, h9, -⟩ := Vm.findClass_spec hc4
    obtain ⟨k8, h8, -⟩ := hwarm₁.alike.2.2 _ _ h9
    exact ⟨k8, h8⟩
  obtain ⟨t, a1, b1⟩ := kk (T.setVm vm₁) hT X₁
  refine ⟨t, rx_caughtAt X (g := F0 m pc ls rest) rfl (pc := x.handlerPc) X₁ ?_ t a1, b1⟩
  rw [htab]
  exact rx_Fs_hit (f := F0 m pc ls rest) hx h0 hg₁ hsz (by show T.heap[q]? = some ce; rw [hT]; exact hcell) (fun k h => by rw [hv] at h; cases h) hk1 hk2 (by rw [hwarm₁.alike.assignable]; exact hasg)
theorem rx_catch2 {own name nm1 E : String} {ce : Cell} {q : Addr} {y x : ExceptionTableEntry} {suf : List ExceptionTableEntry} {pc : Nat} {ls : Array Slot} {rest : List Value} (hown : s.vm.findClass own = some m.cls) (htab : c.exceptionTable.toList = y :: x :: suf) (hy : covers y pc = true) (hy0 : y.catchType ≠ 0) (hlink1 : (Cond.classLink own y.catchType nm1).before args s = true) (hnc : va_Nc E nm1 s)
    (hx : covers x pc = true) (h0 : x.catchType ≠ 0)
    (hlink : (Cond.classLink own x.catchType name).before args s = true) (hcast : (Cond.castable E name).before args s = true) (hcell : H[q]? = some ce) (hv : ce.vm = .none) (hcl : s.vm.findClass E = some ce.cls)
    (kk : W p l e R s m args below meth c H locs cells slots Q (F0 m x.handlerPc ls [.ref q])) : vx_W p l e R s m args below meth c H locs cells slots Q (F0 m pc ls rest) q := by
  intro T hT X
  have hpl : e.platform.magicAccessors = ({} : Platform).magicAccessors := by rw [X.admits.platform]
  obtain ⟨c3, c4, hc3, hc4, hasg⟩ := Cond.castable_spec hcast
  cases Option.some.inj (hc3.symm.trans hcl)
  obtain ⟨c5, hc5, hcl5⟩ := Cond.classLink_spec hown hlink e.platform hpl
  cases Option.some.inj (hc4.symm.trans hc5)
  obtain ⟨c6, hc6, hcl6⟩ := Cond.classLink_spec hown hlink1 e.platform hpl
  obtain ⟨a8, b8, n1, n2, n3⟩ := hnc
  cases Option.some.inj (n1.symm.trans hcl)
  cases Option.some.inj (n2.symm.trans hc6)
  obtain ⟨hg₁, hwarm₁, hready₁⟩ := State.classEntry (e := e) X.warmed hcl6
  generalize T.vm.noted m.cls y.catchType (.cls c6) = vm₁ at hg₁ hwarm₁ hready₁
  have X₁ := X.noted hwarm₁
  have hsz : vm₁.classes.size ≤ T.vm.classes.size := by no_record
  obtain ⟨hg₂, hwarm₂, hready₂⟩ := State.classEntry (e := e) X₁.warmed hcl5
  generalize (T.setVm vm₁).vm.noted m.cls x.catchType (.cls c4) = vm₂ at hg₂ hwarm₂ hready₂
  have X₂ : Stand p l e R s m args below meth c (T.setVm vm₂) locs cells slots := X.noted hwarm₂
  have hsz2 : vm₂.classes.size ≤ vm₁.classes.size := by no_record
  have hk : ∀ {vm : Vm}, s.vm.Alike vm → ∀ {n : String} {k : ClassId}, s.vm.findClass n = some k → ∃ z, vm.classes[k]? = some z := by
    intro vm hal n k hn
    obtain ⟨k9, h9, -⟩ := Vm.findClass_spec hn
    obtain ⟨k8, h8, -⟩ := hal.2.2 _ _ h9
    exact ⟨k8, h8⟩
  obtain ⟨t, a1, b1⟩ := kk (T.setVm vm₂) hT X₂
  refine ⟨t, rx_caughtAt X (g := F0 m pc ls rest) rfl (pc := x.handlerPc) X₂ ?_ t a1, b1⟩
  rw [htab]
  refine rx_Fs_miss (f := F0 m pc ls rest) (cell := ce) hy hy0 hg₁ hsz (by show T.heap[q]? = some ce; rw [hT]; exact hcell) (fun k h => by rw [hv] at h; cases h) (hk hwarm₁.alike hcl) (hk hwarm₁.alike hc6) (by rw [hwarm₁.alike.assignable]; exact n3) ?_
  exact rx_Fs_hit (f := F0 m pc ls rest) (s := ((T.setTop (F0 m pc ls rest)).pushFrame (.throwing q)).setVm vm₁) (vm' := vm₂) hx h0 hg₂ hsz2 (by show T.heap[q]? = some ce; rw [hT]; exact hcell) (fun k h => by rw [hv] at h; cases h) (hk hwarm₂.alike hcl) (hk hwarm₂.alike hc4) (by rw [hwarm₂.alike.assignable]; exact hasg)
end RXO
