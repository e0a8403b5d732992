/-! THE ABSTRACT MACHINE, part i: addresses stay in order; a callee's contract out of its run; behind a call -/
theorem rx_pure_okv {ins : Instr} {st st' : List Value} {n : Nat} (h : rx_pure ins st = some st') (hst : ∀ v ∈ st, rx_okv n v) : ∀ v ∈ st', rx_okv n v := by
  unfold rx_pure at h
  split at h <;> first
    | (cases h; done)
    | (cases h; exact rx_ok_cn (rx_okv_nr (fun _ q => by cases q)) hst)
    | (split at h <;> first
        | (cases h; done)
        | (cases h; exact rx_ok_cn (rx_okv_nr (fun _ q => by cases q)) (rx_ok_tl (rx_ok_tl hst)))
        | (cases h; exact rx_ok_cn (rx_okv_nr (fun _ q => by cases q)) (rx_ok_tl hst))
        | (split at h <;> first
            | (cases h; done)
            | (cases h; exact rx_ok_cn (rx_okv_nr (fun _ q => by cases q)) (rx_ok_tl (rx_ok_tl hst)))
            | (cases h; exact rx_ok_cn (hst _ List.mem_cons_self) hst)
            | (cases h; exact rx_ok_tl hst)
            | (cases h; exact rx_ok_cn (hst _ List.mem_cons_self) (rx_ok_cn (hst _ (List.mem_cons_of_mem _ List.mem_cons_self)) (rx_ok_cn (hst _ List.mem_cons_self) (rx_ok_tl (rx_ok_tl hst)))))
            | (cases h; exact rx_ok_cn (hst _ List.mem_cons_self) (rx_ok_cn (hst _ (List.mem_cons_of_mem _ List.mem_cons_self)) hst))
            | (cases h; exact rx_ok_cn (hst _ List.mem_cons_self) (rx_ok_cn (hst _ (List.mem_cons_of_mem _ List.mem_cons_self)) (rx_ok_cn (hst _ (List.mem_cons_of_mem _ (List.mem_cons_of_mem _ List.mem_cons_self))) (rx_ok_cn (hst _ List.mem_cons_self) (rx_ok_tl (rx_ok_tl (rx_ok_tl hst)))))))))
theorem rx_s1_okv {n i : Nat} {lv : rx_L} {v : Value} (hv : rx_okv n v) (h : ∀ q ∈ lv, rx_okv n q.2) : ∀ q ∈ rx_s1 lv i v, rx_okv n q.2 := fun q hq => (List.mem_cons.mp hq).elim (fun e => by rw [e]; exact hv) (fun e => h q (List.mem_filter.mp e).1)
theorem rx_s2_okv {n i : Nat} {lv : rx_L} {v : Value} (hv : rx_okv n v) (h : ∀ q ∈ lv, rx_okv n q.2) : ∀ q ∈ rx_s2 lv i v, rx_okv n q.2 := fun q hq => (List.mem_cons.mp hq).elim (fun e => by rw [e]; exact hv) (fun e => h q (List.mem_filter.mp e).1)
theorem rx_loc_okv {ins : Instr} {nL n : Nat} {lv lv' : rx_L} {st st' : List Value} (h : rx_loc ins nL lv st = some (lv', st')) (hlv : ∀ q ∈ lv, rx_okv n q.2) (hst : ∀ v ∈ st, rx_okv n v) : (∀ q ∈ lv', rx_okv n q.2) ∧ ∀ v ∈ st', rx_okv n v := by
  unfold rx_loc at h
  split at h <;> first
    | (cases h; done)
    | (split at h <;> first
        | (cases h; done)
        | (rename_i g; cases h; exact ⟨hlv, rx_ok_cn (hlv _ (rx_ld_mem g)) hst⟩)
        | (split at h <;> first
            | (cases h; done)
            | (cases h; exact ⟨rx_s1_okv (hst _ List.mem_cons_self) hlv, rx_ok_tl hst⟩)
            | (cases h; exact ⟨rx_s2_okv (hst _ List.mem_cons_self) hlv, rx_ok_tl hst⟩)
            | (cases h; exact ⟨rx_s1_okv (rx_okv_nr (fun _ q => by cases q)) hlv, hst⟩)))
theorem rx_jmp_okv {ins : Instr} {pc pc' n : Nat} {st st' : List Value} (h : rx_jmp ins pc st = some (pc', st')) (hst : ∀ v ∈ st, rx_okv n v) : ∀ v ∈ st', rx_okv n v := by
  unfold rx_jmp at h
  split at h <;> first
    | (cases h; done)
    | (split at h <;> first
        | (cases h; done)
        | (cases h; exact hst)
        | (split at h <;> first
            | (cases h; done)
            | (cases h; exact rx_ok_tl hst)
            | (cases h; exact rx_ok_tl (rx_ok_tl hst))
            | (split at h <;> first
                | (cases h; done)
                | (cases h; exact rx_ok_tl hst)
                | (split at h <;> first
                    | (cases h; done)
                    | (cases h; exact rx_ok_tl hst)))))
theorem rx_lc_args (ad : Nat → Nat) : ∀ (as : List Value) (i : Nat), lv_args i (as.map (rx_v ad)) = rx_lc ad (lv_args i as)
  | [], i => rfl
  | v :: r, i => by
    simp only [List.map_cons, lv_args, rx_v_cat]
    rw [rx_lc_args ad r]
    rfl
theorem rx_sl_len (ad : Nat → Nat) (as : List Value) : (lg_sl (as.map (rx_v ad))).length = (lg_sl as).length := by
  unfold lg_sl
  induction as with
  | nil => rfl
  | cons v r ih =>
    simp only [List.map_cons, List.flatMap_cons, List.length_append, rx_v_cat, ih]
    split <;> rfl
theorem rx_args_okv {n : Nat} : ∀ (as : List Value) (i : Nat), (∀ v ∈ as, rx_okv n v) → ∀ q ∈ lv_args i as, rx_okv n q.2
  | [], i, _, q, hq => by cases hq
  | v :: r, i, h, q, hq => (List.mem_cons.mp hq).elim (fun e => by rw [e]; exact h v List.mem_cons_self) (fun e => rx_args_okv r _ (rx_ok_tl h) q e)
def rx_ws (P : rx_P) (mj : Nat) : List Cond := rx_cd1 P mj :: rx_TT
theorem rx_ws0 {P : rx_P} {mj : Nat} (h : rx_hh P mj = []) : rx_ws P mj = Cond.code (rx_yn P mj) (rx_cb P mj) (rx_ml P mj) (rx_rt P mj) :: rx_TT := by
  unfold rx_ws rx_cd1
  rw [if_pos h]
theorem rx_ws1 {P : rx_P} {mj : Nat} (h : rx_hh P mj ≠ []) : rx_ws P mj = Cond.codeWith (rx_yn P mj) (rx_cb P mj) (rx_ml P mj) (rx_rt P mj) (rx_hh P mj) :: rx_TT := by
  unfold rx_ws rx_cd1
  rw [if_neg h]
theorem rx_good {P : rx_P} {mj : Nat} (h : rx_OkM P mj) : GoodIn rx_TT (rx_ws P mj) := fun w hw => (List.mem_cons.mp hw).elim (fun e => by rw [e]; exact ⟨h.2.1, rx_TT_good h.2.1⟩) (fun e => ⟨e, rx_TT_good e⟩)
def rx_Pc (P : rx_P) (D : va_G) (dA : Nat → ClassId) (ad : Nat → Nat) (L : List va_E) (as : List Value) (sz : Nat) : Array Value → State → Prop :=
  va_Pc (as.map (rx_v ad)) (fun U => U.heap.size = sz ∧ va_P D vwCl (rx_cw ad dA 0 L) U.heap ∧ va_K D vwCl (rx_tys dA) U ∧ va_D (fun _ => True) (rx_cw ad dA 0 L) ∧ rx_KC P (va_A (rx_cw ad dA 0 L) sz) ad U U.heap)
def rx_Af (D : va_G) (dA : Nat → ClassId) (A : Nat → Prop) (ad : Nat → Nat) (L L1 : List va_E) (ad' : Nat → Nat) (st t : State) : Prop :=
  rx_ext L.length ad ad' ∧ va_P D vwCl (rx_cw ad' dA 0 L1) t.heap ∧ va_D A (rx_cw ad' dA 0 L1) ∧ rx_ok L1.length L1 ∧ L1.length ≤ rx_B ∧ L.length ≤ L1.length ∧ va_F A st t
def rx_Qr (D : va_G) (dA : Nat → ClassId) (A : Nat → Prop) (ad : Nat → Nat) (L : List va_E) (o : (Option Value) ⊕ String) (L1 : List va_E) : Array Value → State → Outcome → State → Prop :=
  fun _ st oc t => ∃ (ad' : Nat → Nat) (v : Option Value), o = .inl v ∧ oc = .returned (v.map (rx_v ad')) ∧ (∀ w, v = some w → rx_okv L1.length w) ∧ rx_Af D dA A ad L L1 ad' st t
def rx_Xr (D : va_G) (dA : Nat → ClassId) (A : Nat → Prop) (ad : Nat → Nat) (L : List va_E) (o : (Option Value) ⊕ String) (L1 : List va_E) : String → State → State → Prop :=
  fun E st t => o = .inr E ∧ ∃ ad' : Nat → Nat, rx_Af D dA A ad L L1 ad' st t
set_option maxHeartbeats 4000000 in
theorem rx_met {P : rx_P} {l : Launch} {rc : rx_F} {mj F Lo : Nat} {as : List Value} {L L1 : List va_E} {o : (Option Value) ⊕ String} {c1 s1 : Nat} (okM : rx_OkM P mj) (hrc : rx_Sound P l rc) (h : rc mj F Lo 0 (lv_args 0 as) [] L = some (o, L1, c1, s1)) (hsl : (lg_sl as).length ≤ rx_ml P mj)
    (hok : rx_ok L.length L) (hlen : L.length ≤ rx_B) (has : ∀ v ∈ as, rx_okv L.length v) (D : va_G) (dA : Nat → ClassId) (ad : Nat → Nat) (sz : Nat) :
    vx_Met l (rx_yn P mj) (rx_ws P mj) ({ frames := F, cells := c1, slots := s1, locals := Lo }) (rx_Pc P D dA ad L as sz) (rx_Qr D dA (va_A (rx_cw ad dA 0 L) sz) ad L o L1) (rx_Xr D dA (va_A (rx_cw ad dA 0 L) sz) ad L o L1) c1 s1 (va_A (rx_cw ad dA 0 L) sz) := by
  have body : ∀ (p : Program) (e : Env) (s : State) (m : MethodId) (args : Array Value) (below : List Frame) (meth : Method) (c : Code) (s₁ : State), BodyLoose p l (rx_yn P mj) (headSpec (rx_ws P mj) ({ frames := F, cells := c1, slots := s1, locals := Lo })) (rx_cb P mj) (rx_ml P mj) (rx_rt P mj) e s m args below meth c s₁ → c.maxLocals = rx_ml P mj → c.exceptionTable.toList = tableOf (rx_hh P mj) → rx_Pc P D dA ad L as sz args s →
      W p l e (headSpec (rx_ws P mj) ({ frames := F, cells := c1, slots := s1, locals := Lo })).room s m args below meth c s.heap [] 0 0 (vx_MQ below (rx_Qr D dA (va_A (rx_cw ad dA 0 L) sz) ad L o L1) (rx_Xr D dA (va_A (rx_cw ad dA 0 L) sz) ad L o L1) args s c1 s1 (va_A (rx_cw ad dA 0 L) sz)) (entryFrame m args (rx_ml P mj)) := by
   intro p e s m args below meth c s₁ B hml htab hv
   obtain ⟨rfl, hsz, hP, hK, hD0, hC⟩ := hv
   have hts := atoms_spec (ws := rx_ws P mj) B.pre
   have hD : va_D (va_A (rx_cw ad dA 0 L) sz) (rx_cw ad dA 0 L) := hD0.self (sz := sz)
   have hl := lv_entry (as.map (rx_v ad)) (n := rx_ml P mj) (by rw [rx_sl_len]; exact hsl)
   rw [lg_entry_eq]
   generalize (lg_sl (as.map (rx_v ad)) ++ List.replicate (rx_ml P mj - (lg_sl (as.map (rx_v ad))).length) Slot.unset).toArray = ls at hl ⊢
   rw [rx_lc_args] at hl
   refine hrc mj F Lo 0 (lv_args 0 as) [] L _ h p e _ s m _ below meth c s.heap [] 0 0 D dA (va_A (rx_cw ad dA 0 L) sz) ad ls _ _ _
     ⟨B.exec, B.bytes, hml, findClass_of_methodNamed B.named, fun w hw => hts w (List.mem_cons_of_mem _ hw), (name_of_methodNamed B.named B.method).1, B.notSynchronized, B.returns, hK, fun q hq => Or.inr (by rw [← hsz]; exact hq), htab⟩
     rfl rfl (by show 0 + c1 ≤ c1; omega) (by show 0 + s1 ≤ s1; omega) ⟨hP, hD, va_S.rf, hok, hlen⟩ hC hl (rx_args_okv as 0 has) (fun v hv => by cases hv) (fun q hq => hq) ?_ ?_
   · intro ad' v H' locs' t e1 he hW' hle hv' ht' hwarm
     exact ⟨ad', v, e1, rfl, hv', he, by rw [ht']; exact hW'.1, hW'.2.1, hW'.2.2.2.1, hW'.2.2.2.2, hle, hW'.2.2.1.F ht'⟩
   · intro E ad' H' locs' t e1 he hW' hle ht' hal
     exact ⟨e1, ad', he, by rw [ht']; exact hW'.1, hW'.2.1, hW'.2.2.2.1, hW'.2.2.2.2, hle, hW'.2.2.1.F ht'⟩
  by_cases h0 : rx_hh P mj = []
  · refine vx_ofW (cc := rx_cb P mj) (maxL := rx_ml P mj) (ret := rx_rt P mj) okM.1 (rx_ws0 h0) ?_
    intro p e s m args below meth c s₁ B hml ht hv
    refine body p e s m args below meth c s₁ B hml ?_ hv
    rw [h0, List.eq_nil_iff_forall_not_mem.mpr (fun x hx => ht x hx)]
    rfl
  · refine vx_ofWH (cc := rx_cb P mj) (maxL := rx_ml P mj) (ret := rx_rt P mj) okM.1 (rx_ws1 h0) ?_
    intro p e s m args below meth c s₁ B hml hv
    exact body p e s m args below meth c s₁ B hml (vx_table (x := rx_yn P mj) B (atoms_spec (ws := rx_ws P mj) B.pre _ (by rw [rx_ws1 h0]; exact List.mem_cons_self))) hv
