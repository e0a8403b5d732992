/-! THE PROGRAM of the tables; its tables are in order -/
def rx_S : Nat := rx_B + 100000
def rx_Fm : Nat := rx_B + 100001
/-- the class's own arrays that nobody writes -/
def rx_Tk : Nat := rx_B + 100002
def rx_Gv : Nat := rx_B + 100003
def rt_Tk : List Int32 := [0, 0, 0, 1, 0, 1, 0, 1, 2, 2, 2, 1, 1, 0, 1, 1, 1]
def rt_Gv : List Int32 := [1, 1, 1, 0, 1, 0, 1, 0, 1, 1, 1, 2, 0, 0, 0, 1, 1]
def rt_cb (mi : Nat) : ByteArray := match rt_m mi with | some M => M.2.2.2.1 | none => ⟨#[]⟩
def rt_ml (mi : Nat) : Nat := match rt_m mi with | some M => M.2.2.2.2.1 | none => 0
def rt_rt (mi : Nat) : Option FieldType := match rt_m mi with | some M => M.2.2.2.2.2.1 | none => none
def rt_cd (mi pc : Nat) : Option Instr := match rt_m mi with
  | some M => match rt_look M.2.2.2.2.2.2.1 (pc / 32) with
    | some l => rt_look l pc
    | none => none
  | none => none
def rt_cl (mi : Nat) : Option rt_C := match rt_m mi with | some M => rt_nth rt_CT M.1 | none => none
def rt_ft (mi idx : Nat) : Option (Nat × Nat) := match rt_cl mi with | some r => rt_look r.2.1 idx | none => none
def rt_pt (mi idx : Nat) : Option (Nat × Nat × FieldType) := match rt_cl mi with
  | some r => match rt_look r.2.2.1 idx with
    | some (ci, k, ty, fin) => if fin = true ∧ (rt_yn mi).name ≠ "<init>" then none else some (ci, k, ty)
    | none => none
  | none => none
def rt_ct (mi idx : Nat) : Option (Nat × Nat × Nat) := match rt_cl mi with | some r => rt_look r.2.2.2.1 idx | none => none
def rt_kt (mi idx : Nat) : Option Value := match rt_cl mi with | some r => rt_look r.2.2.2.2.1 idx | none => none
def rt_nt (mi idx : Nat) : Option (Nat × Nat × List Value) := match rt_cl mi with | some r => rt_look r.2.2.2.2.2.1 idx | none => none
def rt_qt (mi idx : Nat) : Option Nat := match rt_cl mi with
  | some r => match rt_look r.2.2.2.2.2.2.1 idx with
    | some t => some t
    | none => if idx = 50 ∧ r.1 = "MarkHouse$Run" then some 7 else if idx = 118 ∧ r.1 = "MarkHouse$Effects" then some 8 else if idx = 300 ∧ r.1 = "MarkHouse$Teller" then some 8 else if idx = 92 ∧ r.1 = "java/lang/StringLatin1" then some 8 else if idx = 38 ∧ r.1 = "java/lang/StringLatin1" then some 9 else none
  | none => none
def rt_gt (fm : Value) (mi idx : Nat) : Option Value := match rt_cl mi with
  | some r => match rt_look r.2.2.2.2.2.2.2 idx with
    | some (some v) => some v
    | some none => some fm
    | none => if r.1 = "MarkHouse$Code" then (if idx = 110 then some (.ref rx_Tk) else if idx = 113 then some (.ref rx_Gv) else none) else none
  | none => none
def rt_xt (mi pc : Nat) : Option (String × Nat × Nat) := match rt_m mi with
  | some M => match rt_look M.2.2.2.2.2.2.2.1 pc with
    | some x => some x
    | none => if mi = 84 ∧ pc = 33 then some ("java/util/NoSuchElementException", 5, 82) else none
  | none => none
def rt_hh (mi : Nat) : List (Nat × Nat × Nat × Nat) := match rt_m mi with | some M => M.2.2.2.2.2.2.2.2.1 | none => []
def rt_find (l : List (Nat × String × Nat × Fin 4)) (pc : Nat) (E : String) : Option (Nat × Fin 4) := match l with
  | [] => none
  | q :: r => if q.1 = pc ∧ q.2.1 = E then some q.2.2 else rt_find r pc E
def rt_ht (mi pc : Nat) (E : String) : Option (Nat × Fin 4) := match rt_m mi with | some M => rt_find M.2.2.2.2.2.2.2.2.2 pc E | none => none
def rt_sb (i : Nat) : Option (List Int32) := rt_nth rt_ST i
def rt_ci (sc : Nat × (Nat → Int32)) (a : Nat) : Option (Nat × (Nat → Int32)) := match Nat.beq a rx_S with
  | true => some sc
  | false => match Nat.beq a rx_Tk with
    | true => some (17, fun j => rt_Tk.getD j 0)
    | false => match Nat.beq a rx_Gv with
      | true => some (17, fun j => rt_Gv.getD j 0)
      | false => none
def rt_P (sc : Nat × (Nat → Int32)) (fm : Value) : rx_P := (rt_yn, rt_cb, rt_ml, rt_rt, rt_cd, rt_ft, rt_pt, rt_ct, rt_kt, rt_nt, rt_qt, rt_gt fm, rt_xt, rt_sb, rt_ci sc, rt_hh, rt_ht)
theorem rt_m_in {mi : Nat} {M : rt_M} (h : rt_m mi = some M) : ∃ r ∈ rt_MT, M ∈ r := by
  unfold rt_m at h
  split at h
  · rename_i r hr
    exact ⟨r, rt_nth_mem hr, rt_nth_mem h⟩
  · cases h
theorem rt_m_inS {mi : Nat} {M : rt_M} (h : rt_m mi = some M) (h16 : 16 ≤ mi) : ∃ r ∈ rt_MS, M ∈ r := by
  unfold rt_m at h
  split at h
  · rename_i r hr
    refine ⟨r, ?_, rt_nth_mem h⟩
    have hd : 1 ≤ mi / 16 := by omega
    obtain ⟨n, hn⟩ : ∃ n, mi / 16 = n + 1 := ⟨mi / 16 - 1, by omega⟩
    rw [hn] at hr
    exact rt_nth_mem (l := rt_MS) hr
  · cases h
theorem rt_cl_in {mi : Nat} {r : rt_C} (h : rt_cl mi = some r) : r ∈ rt_CT ∧ (rt_yn mi).cls = r.1 := by
  unfold rt_cl at h
  split at h
  · rename_i M hM
    refine ⟨rt_nth_mem h, ?_⟩
    unfold rt_yn
    rw [hM]
    show rt_cn M.1 = r.1
    unfold rt_cn
    rw [h]
  · cases h
theorem rt_cw_TT {r : rt_C} (hr : r ∈ rt_CT) {w : Cond} (h : w ∈ rt_cw r) : w ∈ rx_TT := rx_TT_0 (List.mem_flatMap.mpr ⟨r, hr, h⟩)
def rt_cF : Bool := rt_CT.all (fun r => r.2.1.all (fun q => match vwCl[q.2.1]? with | some v => decide (q.2.2 < v.2.2) | none => false))
theorem rt_cF_ok : rt_cF = true := by decide +kernel
theorem rt_okF (sc : Nat × (Nat → Int32)) (fm : Value) : rx_OkF (rt_P sc fm) := by
  intro mi idx ci k h
  have h : rt_ft mi idx = some (ci, k) := h
  unfold rt_ft at h
  split at h
  · rename_i r hr
    obtain ⟨hr1, hr2⟩ := rt_cl_in hr
    have hm := rt_look_mem h
    have hc := List.all_eq_true.mp (List.all_eq_true.mp rt_cF_ok r hr1) _ hm
    split at hc
    · rename_i v hv
      refine ⟨v, hv, of_decide_eq_true hc, ?_⟩
      show Cond.fieldLink (rt_yn mi).cls idx _ _ _ ∈ rx_TT
      rw [hr2]
      refine rt_cw_TT hr1 ?_
      unfold rt_cw
      simp only [List.append_assoc]
      refine List.mem_append_left _ (List.mem_map.mpr ⟨_, hm, ?_⟩)
      show rt_wf r.1 (idx, ci, k) = _
      unfold rt_wf
      rw [hv]
    · cases hc
  · cases h
def rt_cW : Bool := rt_CT.all (fun r => r.2.2.1.all (fun q => match vwCl[q.2.1]? with | some v => decide (q.2.2.1 < v.2.2) && (decide (parseFieldDescriptor (v.2.1 q.2.2.1).2.2.1 = some q.2.2.2.1) && (decide ((v.2.1 q.2.2.1).2.2.2 = q.2.2.2.2) && (!q.2.2.2.2 || decide ((v.2.1 q.2.2.1).1 = r.1)))) | none => false))
theorem rt_cW_ok : rt_cW = true := by decide +kernel
theorem rt_okW (sc : Nat × (Nat → Int32)) (fm : Value) : rx_OkW (rt_P sc fm) := by
  intro mi idx ci k ty h
  have h : rt_pt mi idx = some (ci, k, ty) := h
  unfold rt_pt at h
  split at h
  · rename_i r hr
    obtain ⟨hr1, hr2⟩ := rt_cl_in hr
    split at h
    · rename_i ci' k' ty' fin hl
      split at h
      · cases h
      · rename_i hfin
        cases h
        have hm := rt_look_mem hl
        have hc := List.all_eq_true.mp (List.all_eq_true.mp rt_cW_ok r hr1) _ hm
        split at hc
        · rename_i v hv
          simp only [Bool.and_eq_true, decide_eq_true_eq, Bool.or_eq_true, Bool.not_eq_true'] at hc
          obtain ⟨c1, c2, c3, c4⟩ := hc
          refine ⟨v, hv, c1, ?_, c2, ?_⟩
          · show Cond.fieldLink (rt_yn mi).cls idx _ _ _ ∈ rx_TT
            rw [hr2]
            refine rt_cw_TT hr1 ?_
            unfold rt_cw
            simp only [List.append_assoc]
            refine List.mem_append_right _ (List.mem_append_left _ (List.mem_map.mpr ⟨_, hm, ?_⟩))
            show rt_wf r.1 (idx, ci, k) = _
            unfold rt_wf
            rw [hv]
          · cases hfe : fin with
            | false => exact Or.inl (c3.trans hfe)
            | true =>
              refine Or.inr ⟨c3.trans hfe, ?_, ?_⟩
              · exact Classical.byContradiction fun q => hfin ⟨hfe, q⟩
              · show _ = (rt_yn mi).cls
                rw [hr2]
                rcases c4 with c4 | c4
                · exact absurd (c4.symm.trans hfe) (by decide)
                · exact c4
        · cases hc
    · cases h
  · cases h
theorem rt_okK (sc : Nat × (Nat → Int32)) (fm : Value) : rx_OkK (rt_P sc fm) := by
  constructor
  · intro mi idx v h
    have h : rt_kt mi idx = some (.int v) := h
    unfold rt_kt at h
    split at h
    · rename_i r hr
      obtain ⟨hr1, hr2⟩ := rt_cl_in hr
      show Cond.constant (rt_yn mi).cls idx v ∈ rx_TT
      rw [hr2]
      refine rt_cw_TT hr1 ?_
      unfold rt_cw
      simp only [List.append_assoc]
      exact List.mem_append_right _ (List.mem_append_right _ (List.mem_append_right _ (List.mem_append_left _ (List.mem_flatMap.mpr ⟨_, rt_look_mem h, List.mem_cons_self⟩))))
    · cases h
  · intro mi idx v h
    have h : rt_kt mi idx = some (.long v) := h
    unfold rt_kt at h
    split at h
    · rename_i r hr
      obtain ⟨hr1, hr2⟩ := rt_cl_in hr
      show Cond.constantLong (rt_yn mi).cls idx v ∈ rx_TT
      rw [hr2]
      refine rt_cw_TT hr1 ?_
      unfold rt_cw
      simp only [List.append_assoc]
      exact List.mem_append_right _ (List.mem_append_right _ (List.mem_append_right _ (List.mem_append_left _ (List.mem_flatMap.mpr ⟨_, rt_look_mem h, List.mem_cons_self⟩))))
    · cases h
def rt_nr : Value → Bool
  | .ref _ => false
  | _ => true
def rt_cN : Bool := rt_CT.all (fun r => r.2.2.2.2.2.1.all (fun q => match vwCl[q.2.1]? with | some v => decide (v.2.2 = q.2.2.1) && ((List.range q.2.2.1).all (fun k => match parseFieldDescriptor (v.2.1 k).2.2.1 with | some t => decide (defaultValue t = vp_V q.2.2.2 k) | none => false) && q.2.2.2.all rt_nr) | none => false))
theorem rt_cN_ok : rt_cN = true := by decide +kernel
theorem rt_okN (sc : Nat × (Nat → Int32)) (fm : Value) (okC : rx_OkC) : rx_OkN (rt_P sc fm) := by
  intro mi idx ci N fs h
  have h : rt_nt mi idx = some (ci, N, fs) := h
  unfold rt_nt at h
  split at h
  · rename_i r hr
    obtain ⟨hr1, hr2⟩ := rt_cl_in hr
    have hm := rt_look_mem h
    have hc := List.all_eq_true.mp (List.all_eq_true.mp rt_cN_ok r hr1) _ hm
    split at hc
    · rename_i v hv
      simp only [Bool.and_eq_true, decide_eq_true_eq] at hc
      obtain ⟨c1, c2, c3⟩ := hc
      obtain ⟨ty, -, t2, -⟩ := okC _ _ hv
      have hw : ∀ w ∈ rt_wn r.1 (idx, ci, N, fs), w ∈ rx_TT := fun w hw => by
        refine rt_cw_TT hr1 ?_
        unfold rt_cw
        simp only [List.append_assoc]
        exact List.mem_append_right _ (List.mem_append_right _ (List.mem_append_right _ (List.mem_append_right _ (List.mem_append_left _ (List.mem_flatMap.mpr ⟨_, hm, hw⟩)))))
      have e1 : rt_wn r.1 (idx, ci, N, fs) = [.classLink r.1 idx v.1, .instantiable v.1 N, .initialized v.1] := by
        unfold rt_wn
        rw [hv]
      rw [e1] at hw
      refine ⟨v, ty, hv, c1, ?_, hw _ (List.mem_cons_of_mem _ List.mem_cons_self), hw _ (List.mem_cons_of_mem _ (List.mem_cons_of_mem _ List.mem_cons_self)), fun k hk => t2 k (by rw [c1]; exact hk), fun j hj => ?_, fun w hw2 k e => ?_⟩
      · show Cond.classLink (rt_yn mi).cls idx v.1 ∈ rx_TT
        rw [hr2]
        exact hw _ List.mem_cons_self
      · have h3 := List.all_eq_true.mp c2 j (List.mem_range.mpr hj)
        rw [t2 j (by rw [c1]; exact hj)] at h3
        exact of_decide_eq_true h3
      · have h3 := List.all_eq_true.mp c3 w hw2
        rw [e] at h3
        cases h3
    · cases hc
  · cases h
def rt_cQ : Bool := rt_CT.all (fun r => r.2.2.2.2.2.2.1.all (fun q => decide (rx_ty[q.2]? = some (.object (rt_tyn q.2)))))
theorem rt_cQ_ok : rt_cQ = true := by decide +kernel
theorem rt_okQ (sc : Nat × (Nat → Int32)) (fm : Value) : rx_OkQ (rt_P sc fm) := by
  intro mi idx t h
  have h : rt_qt mi idx = some t := h
  unfold rt_qt at h
  split at h
  · rename_i r hr
    obtain ⟨hr1, hr2⟩ := rt_cl_in hr
    split at h
    rotate_left
    · split at h
      · rename_i hc
        cases h
        refine Or.inl ⟨rfl, ?_, rx_TT_2 (by decide +kernel), rx_TT_2 (by decide +kernel), rx_TT_2 (by decide +kernel)⟩
        show Cond.methodLink (rt_yn mi).cls idx _ ∈ rx_TT
        rw [hr2, hc.2, hc.1]
        exact rx_TT_2 (by decide +kernel)
      · split at h
        · rename_i hc
          cases h
          refine Or.inr (Or.inl ⟨rfl, ?_, rx_TT_2 (by decide +kernel), rx_TT_2 (by decide +kernel), rx_TT_2 (by decide +kernel)⟩)
          show Cond.methodLink (rt_yn mi).cls idx _ ∈ rx_TT
          rw [hr2, hc.2, hc.1]
          exact rx_TT_2 (by decide +kernel)
        · split at h
          · rename_i hc
            cases h
            refine Or.inr (Or.inl ⟨rfl, ?_, rx_TT_2 (by decide +kernel), rx_TT_2 (by decide +kernel), rx_TT_2 (by decide +kernel)⟩)
            show Cond.methodLink (rt_yn mi).cls idx _ ∈ rx_TT
            rw [hr2, hc.2, hc.1]
            exact rx_TT_2 (by decide +kernel)
          · split at h
            · rename_i hc
              cases h
              refine Or.inr (Or.inl ⟨rfl, ?_, rx_TT_2 (by decide +kernel), rx_TT_2 (by decide +kernel), rx_TT_2 (by decide +kernel)⟩)
              show Cond.methodLink (rt_yn mi).cls idx _ ∈ rx_TT
              rw [hr2, hc.2, hc.1]
              exact rx_TT_2 (by decide +kernel)
            · split at h
              · rename_i hc
                cases h
                refine Or.inr (Or.inr (Or.inl ⟨rfl, ?_, rx_TT_2 (by decide +kernel), rx_TT_2 (by decide +kernel), rx_TT_2 (by decide +kernel)⟩))
                show Cond.methodLink (rt_yn mi).cls idx _ ∈ rx_TT
                rw [hr2, hc.2, hc.1]
                exact rx_TT_2 (by decide +kernel)
              · cases h
    rename_i t' h'
    cases h
    have hm := rt_look_mem h'
    have hc := List.all_eq_true.mp (List.all_eq_true.mp rt_cQ_ok r hr1) _ hm
    refine Or.inr (Or.inr (Or.inr ⟨rt_tyn t, of_decide_eq_true hc, ?_⟩))
    show Cond.classLink (rt_yn mi).cls idx _ ∈ rx_TT
    rw [hr2]
    refine rt_cw_TT hr1 ?_
    unfold rt_cw
    simp only [List.append_assoc]
    exact List.mem_append_right _ (List.mem_append_right _ (List.mem_append_right _ (List.mem_append_right _ (List.mem_append_right _ (List.mem_map.mpr ⟨_, hm, rfl⟩)))))
  · cases h
theorem rt_okA : rx_OkA := ⟨rx_TT_2 (by decide +kernel), rx_TT_2 (by decide +kernel), rx_TT_2 (by decide +kernel), rx_TT_2 (by decide +kernel)⟩
theorem rt_okO : rx_OkO := ⟨rx_TT_2 (by decide +kernel), rx_TT_2 (by decide +kernel)⟩
def rt_okcall (q : Nat × Nat × Nat × Nat) : Bool := decide (q.2.1 = 6) || (match rt_m q.2.2.1 with
  | some M => decide (16 ≤ q.2.2.1) && (plainName (rt_cn M.1) && (decide (rt_cn M.1 ≠ "java/lang/invoke/MethodHandle") && (decide (rt_cn M.1 ≠ "java/lang/invoke/VarHandle") && (decide ((parseMethodDescriptor M.2.2.1).map (fun d => d.parameters.length) = some q.2.2.2) &&
      (decide (q.2.1 = 0 ∧ M.2.2.2.2.2.2.2.2.1 = []) || (decide ((q.2.1 = 1 ∧ M.2.2.2.2.2.2.2.2.1 = []) ∨ (q.2.1 = 3 ∧ M.2.2.2.2.2.2.2.2.1 ≠ [])) || (decide ((q.2.1 = 2 ∨ q.2.1 = 12) ∧ M.2.2.2.2.2.2.2.2.1 = [] ∧ M.2.1 = "<init>" ∧ M.2.2.2.2.2.1 = none) || decide (q.2.1 = 11 ∧ M.2.2.2.2.2.2.2.2.1 = []))))))))
  | none => false)
def rt_cI : Bool := rt_CT.all (fun r => r.2.2.2.1.all rt_okcall)
theorem rt_cI_ok : rt_cI = true := by decide +kernel
theorem rt_okI (sc : Nat × (Nat → Int32)) (fm : Value) : rx_OkI (rt_P sc fm) := by
  intro mi idx kd mj n h
  have h : rt_ct mi idx = some (kd, mj, n) := h
  unfold rt_ct at h
  split at h
  · rename_i r hr
    obtain ⟨hr1, hr2⟩ := rt_cl_in hr
    have hm := rt_look_mem h
    have hc := List.all_eq_true.mp (List.all_eq_true.mp rt_cI_ok r hr1) _ hm
    have hw : ∀ w ∈ rt_wc r.1 (idx, kd, mj, n), w ∈ rx_TT := fun w hw => by
      refine rt_cw_TT hr1 ?_
      unfold rt_cw
      simp only [List.append_assoc]
      exact List.mem_append_right _ (List.mem_append_right _ (List.mem_append_left _ (List.mem_flatMap.mpr ⟨_, hm, hw⟩)))
    have hcls : (rx_yn (rt_P sc fm) mi).cls = r.1 := hr2
    unfold rt_okcall at hc
    rw [Bool.or_eq_true] at hc
    rcases hc with hc | hc
    · have h6 : kd = 6 := of_decide_eq_true hc
      subst h6
      refine Or.inl ⟨rfl, ?_⟩
      rw [hcls]
      exact hw _ List.mem_cons_self
    · split at hc
      · rename_i M hM
        have hyn : rx_yn (rt_P sc fm) mj = ⟨rt_cn M.1, M.2.1, M.2.2.1⟩ := by
          show rt_yn mj = _
          unfold rt_yn
          rw [hM]
        have hyn2 : rt_yn mj = ⟨rt_cn M.1, M.2.1, M.2.2.1⟩ := hyn
        have hhh : rx_hh (rt_P sc fm) mj = M.2.2.2.2.2.2.2.2.1 := by
          show rt_hh mj = _
          unfold rt_hh
          rw [hM]
        have hrt : rx_rt (rt_P sc fm) mj = M.2.2.2.2.2.1 := by
          show rt_rt mj = _
          unfold rt_rt
          rw [hM]
        simp only [Bool.and_eq_true, Bool.or_eq_true, decide_eq_true_eq] at hc
        obtain ⟨c0, c1, c2, c3, c4, c5⟩ := hc
        obtain ⟨R, hR1, hR2⟩ := rt_m_inS hM c0
        have hmw : ∀ w ∈ rt_mw M, w ∈ rx_TT := fun w hw => rx_TT_1 (List.mem_flatMap.mpr ⟨R, hR1, List.mem_flatMap.mpr ⟨M, hR2, hw⟩⟩)
        have okM : rx_OkM (rt_P sc fm) mj := by
          refine ⟨by rw [hyn]; exact c1, ?_, ?_, by rw [hyn]; exact c2, by rw [hyn]; exact c3⟩
          · have e1 : rx_cd1 (rt_P sc fm) mj = if M.2.2.2.2.2.2.2.2.1 = [] then Cond.code ⟨rt_cn M.1, M.2.1, M.2.2.1⟩ M.2.2.2.1 M.2.2.2.2.1 M.2.2.2.2.2.1 else Cond.codeWith ⟨rt_cn M.1, M.2.1, M.2.2.1⟩ M.2.2.2.1 M.2.2.2.2.1 M.2.2.2.2.2.1 M.2.2.2.2.2.2.2.2.1 := by
              unfold rx_cd1
              rw [hhh, hyn, hrt]
              have e2 : rx_cb (rt_P sc fm) mj = M.2.2.2.1 := by
                show rt_cb mj = _
                unfold rt_cb
                rw [hM]
              have e3 : rx_ml (rt_P sc fm) mj = M.2.2.2.2.1 := by
                show rt_ml mj = _
                unfold rt_ml
                rw [hM]
              rw [e2, e3]
            rw [e1]
            exact hmw _ List.mem_cons_self
          · rw [hyn]
            exact hmw _ (List.mem_cons_of_mem _ List.mem_cons_self)
        refine Or.inr ⟨okM, by rw [hyn]; exact c4, ?_⟩
        rw [hhh, hcls]
        have hyn3 : rx_yn (rt_P sc fm) mj = rt_yn mj := rfl
        rw [hrt, hyn3]
        rcases c5 with ⟨e, c5⟩ | c5 | ⟨e, c5, c6, c7⟩ | ⟨e, c5⟩
        · have e : kd = 0 := e
          subst e
          exact Or.inl ⟨rfl, c5, hw _ List.mem_cons_self, hw _ (List.mem_cons_of_mem _ List.mem_cons_self), hw _ (List.mem_cons_of_mem _ (List.mem_cons_of_mem _ List.mem_cons_self))⟩
        · rcases c5 with ⟨e, c5⟩ | ⟨e, c5⟩
          · have e : kd = 1 := e
            subst e
            exact Or.inr (Or.inl ⟨Or.inl rfl, fun _ => c5, (fun z => by cases z), hw _ List.mem_cons_self, hw _ (List.mem_cons_of_mem _ List.mem_cons_self)⟩)
          · have e : kd = 3 := e
            subst e
            exact Or.inr (Or.inl ⟨Or.inr rfl, (fun z => by cases z), fun _ => c5, hw _ List.mem_cons_self, hw _ (List.mem_cons_of_mem _ List.mem_cons_self)⟩)
        · rcases e with e | e
          · have e : kd = 2 := e
            subst e
            exact Or.inr (Or.inr (Or.inl ⟨rfl, c5, hw _ List.mem_cons_self, hw _ (List.mem_cons_of_mem _ List.mem_cons_self), by rw [hyn2]; exact c6, c7⟩))
          · have e : kd = 12 := e
            subst e
            exact Or.inr (Or.inr (Or.inr (Or.inr ⟨rfl, c5, hw _ List.mem_cons_self, by rw [hyn2]; exact c6, c7⟩)))
        · have e : kd = 11 := e
          subst e
          exact Or.inr (Or.inr (Or.inr (Or.inl ⟨rfl, c5, hw _ List.mem_cons_self⟩)))
      · cases hc
  · cases h
theorem rt_okD (sc : Nat × (Nat → Int32)) (fm : Value) : rx_OkD (rt_P sc fm) := by
  intro mi pc ins h
  have h : rt_cd mi pc = some ins := h
  unfold rt_cd at h
  split at h
  · rename_i M hM
    split at h
    · rename_i l hl
      obtain ⟨r, hr1, hr2⟩ := rt_m_in hM
      have hk := rt_E r hr1 M hr2 _ (rt_look_mem hl)
      have hq := List.all_eq_true.mp hk _ (rt_look_mem h)
      have e2 : rx_cb (rt_P sc fm) mi = M.2.2.2.1 := by
        show rt_cb mi = _
        unfold rt_cb
        rw [hM]
      rw [e2]
      split at hq
      · rename_i i n hi
        simp only [Bool.and_eq_true, Bool.or_eq_true, decide_eq_true_eq] at hq
        obtain ⟨q1, q2⟩ := hq
        subst q1
        refine ⟨n, hi, ?_⟩
        rcases q2 with q2 | q2
        · exact Or.inl (Nat.eq_of_beq_eq_true q2)
        · unfold rt_sw at q2
          split at q2
          · exact Or.inr ⟨_, _, _, _, rfl⟩
          · cases q2
      · cases hq
    · cases h
  · cases h
theorem rt_find_mem {pc : Nat} {E : String} {x : Nat × Fin 4} : ∀ {l : List (Nat × String × Nat × Fin 4)}, rt_find l pc E = some x → (pc, E, x) ∈ l
  | [], h => by cases h
  | q :: r, h => by
    unfold rt_find at h
    split at h
    · rename_i e
      cases h
      obtain ⟨rfl, rfl⟩ := e
      exact List.mem_cons_self
    · exact List.mem_cons_of_mem _ (rt_find_mem h)
def rt_cH : Bool := rt_MT.all (fun r => r.all (fun M => M.2.2.2.2.2.2.2.2.2.all (fun q => decide (decode M.2.2.2.1 q.2.2.1 = .ok (.astore_n q.2.2.2, 1)) && decide ((q.2.2.2 : Nat) < M.2.2.2.2.1))))
theorem rt_cH_ok : rt_cH = true := by decide +kernel
theorem rt_okH (sc : Nat × (Nat → Int32)) (fm : Value) : rx_OkH (rt_P sc fm) := by
  intro mi pc E hpc k h
  have h : rt_ht mi pc E = some (hpc, k) := h
  unfold rt_ht at h
  split at h
  · rename_i M hM
    obtain ⟨r, hr1, hr2⟩ := rt_m_in hM
    have hq := List.all_eq_true.mp (List.all_eq_true.mp (List.all_eq_true.mp rt_cH_ok r hr1) M hr2) _ (rt_find_mem h)
    simp only [Bool.and_eq_true, decide_eq_true_eq] at hq
    have e2 : rx_cb (rt_P sc fm) mi = M.2.2.2.1 := by
      show rt_cb mi = _
      unfold rt_cb
      rw [hM]
    have e3 : rx_ml (rt_P sc fm) mi = M.2.2.2.2.1 := by
      show rt_ml mi = _
      unfold rt_ml
      rw [hM]
    rw [e2, e3]
    exact hq
  · cases h
theorem rt_ok (sc : Nat × (Nat → Int32)) (fm : Value) {l : Launch} (hl : l.stackTraces = false) : rx_OkAll (rt_P sc fm) l :=
  ⟨⟨rt_okC, rt_okF sc fm, rt_okW sc fm, rt_okK sc fm, rt_okN sc fm rt_okC, rt_okQ sc fm, rt_okA⟩, rt_okD sc fm, rt_okI sc fm, rt_okO, hl, rt_okH sc fm⟩
