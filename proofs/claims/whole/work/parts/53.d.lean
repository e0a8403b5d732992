/-! THE CODE AS PURE PROGRAMS, 12: by wip/whole/dc.py -/
section D53
variable {sc : Nat × (Nat → Int32)} {fm : Value}
theorem wi_399_0 : ri (rt_P sc fm) 399 0 (.iload_n 0) (1) := ri_of (by decide +kernel) rfl
theorem wi_399_1 : ri (rt_P sc fm) 399 1 (.iconst 2) (2) := ri_of (by decide +kernel) rfl
theorem wi_399_10 : ri (rt_P sc fm) 399 10 (.iconst 3) (11) := ri_of (by decide +kernel) rfl
theorem wi_399_11 : ri (rt_P sc fm) 399 11 (.if_icmp .ne 7) (14) := ri_of (by decide +kernel) rfl
theorem wi_399_14 : ri (rt_P sc fm) 399 14 (.iconst 2) (15) := ri_of (by decide +kernel) rfl
theorem wi_399_15 : ri (rt_P sc fm) 399 15 (.goto 23) (18) := ri_of (by decide +kernel) rfl
theorem wi_399_18 : ri (rt_P sc fm) 399 18 (.iload_n 0) (19) := ri_of (by decide +kernel) rfl
theorem wi_399_19 : ri (rt_P sc fm) 399 19 (.iconst 4) (20) := ri_of (by decide +kernel) rfl
theorem wi_399_2 : ri (rt_P sc fm) 399 2 (.if_icmp .ne 7) (5) := ri_of (by decide +kernel) rfl
theorem wi_399_20 : ri (rt_P sc fm) 399 20 (.if_icmp .ne 7) (23) := ri_of (by decide +kernel) rfl
theorem wi_399_23 : ri (rt_P sc fm) 399 23 (.iconst 4) (24) := ri_of (by decide +kernel) rfl
theorem wi_399_24 : ri (rt_P sc fm) 399 24 (.goto 14) (27) := ri_of (by decide +kernel) rfl
theorem wi_399_27 : ri (rt_P sc fm) 399 27 (.iload_n 0) (28) := ri_of (by decide +kernel) rfl
theorem wi_399_28 : ri (rt_P sc fm) 399 28 (.iconst 5) (29) := ri_of (by decide +kernel) rfl
theorem wi_399_29 : ri (rt_P sc fm) 399 29 (.if_icmp .ne 8) (32) := ri_of (by decide +kernel) rfl
theorem wi_399_32 : ri (rt_P sc fm) 399 32 (.bipush 8) (34) := ri_of (by decide +kernel) rfl
theorem wi_399_34 : ri (rt_P sc fm) 399 34 (.goto 4) (37) := ri_of (by decide +kernel) rfl
theorem wi_399_37 : ri (rt_P sc fm) 399 37 (.iconst 0) (38) := ri_of (by decide +kernel) rfl
theorem wi_399_38 : ri (rt_P sc fm) 399 38 (.ireturn) (39) := ri_of (by decide +kernel) rfl
theorem wi_399_5 : ri (rt_P sc fm) 399 5 (.iconst 1) (6) := ri_of (by decide +kernel) rfl
theorem wi_399_6 : ri (rt_P sc fm) 399 6 (.goto 32) (9) := ri_of (by decide +kernel) rfl
theorem wi_399_9 : ri (rt_P sc fm) 399 9 (.iload_n 0) (10) := ri_of (by decide +kernel) rfl
theorem wr_399 : rx_rt (rt_P sc fm) 399 = (some FieldType.int) := (by decide +kernel : rt_rt 399 = (some FieldType.int))
/-- MarkHouseModel.sortBit(I)I -/
def d_399 (n : Nat) (a0 : Int32) : Option (Int32) :=
  jn (fun p1 : Int32 =>
    some p1)
  (fun j38 =>
  if a0 = 2 then
    j38 1
  else
    if a0 = 3 then
      j38 2
    else
      if a0 = 4 then
        j38 4
      else
        if a0 = 5 then
          j38 8
        else
          j38 0)
set_option maxRecDepth 100000 in
set_option maxHeartbeats 4000000 in
theorem sp_399 {F Lo n : Nat} {a0 : Int32} {L : List va_E} {K : Int32 → Prop} {Q : ((Option Value) ⊕ String) → List va_E → Prop} (hF : 0 ≤ F) (hLo : 0 ≤ Lo)  (h : wp (d_399 n a0) K) (hQ : ∀ r, K r → Q (.inl (some (.int r))) L) : rs (rt_P sc fm) 399 F Lo 0 [(0, .int a0)] [] L Q := by
  unfold d_399 at h
  obtain ⟨lv, elv⟩ : ∃ lv : rx_L, lv = [(0, .int a0)] := ⟨_, rfl⟩
  rw [← elv]
  have l0 : rx_ld lv 0 = some (.int a0) := by rw [elv]; rfl
  refine rs_ildn wi_399_0 l0 ?_
  refine rs_pure wi_399_1 rfl ?_
  refine rs_topi (v := 2) (by decide) ?_
  refine wp_jn (B := fun p1 : Int32 => ∀ lv, rs (rt_P sc fm) 399 F Lo 38 lv [.int p1] L Q) h (fun p1 h lv => ?_) (fun j38 hj38 h => ?_)
  ·
    exact rs_iret wi_399_38 wr_399 rfl (hQ p1 h)
  refine rs_icne (tg := 9) wi_399_2 ⟨by decide, by decide⟩ (fun q => ?_) (fun q => ?_)
  ·
    have h := wp_neg h q
    refine rs_ildn wi_399_9 l0 ?_
    refine rs_pure wi_399_10 rfl ?_
    refine rs_topi (v := 3) (by decide) ?_
    refine rs_icne (tg := 18) wi_399_11 ⟨by decide, by decide⟩ (fun q => ?_) (fun q => ?_)
    ·
      have h := wp_neg h q
      refine rs_ildn wi_399_18 l0 ?_
      refine rs_pure wi_399_19 rfl ?_
      refine rs_topi (v := 4) (by decide) ?_
      refine rs_icne (tg := 27) wi_399_20 ⟨by decide, by decide⟩ (fun q => ?_) (fun q => ?_)
      ·
        have h := wp_neg h q
        refine rs_ildn wi_399_27 l0 ?_
        refine rs_pure wi_399_28 rfl ?_
        refine rs_topi (v := 5) (by decide) ?_
        refine rs_icne (tg := 37) wi_399_29 ⟨by decide, by decide⟩ (fun q => ?_) (fun q => ?_)
        ·
          have h := wp_neg h q
          refine rs_pure wi_399_37 rfl ?_
          refine rs_topi (v := 0) (by decide) ?_
          exact hj38 _ h _
        ·
          have h := wp_pos h q
          refine rs_pure wi_399_32 rfl ?_
          refine rs_topi (v := 8) (by decide) ?_
          refine rs_goto (tg := 38) wi_399_34 ⟨by decide, by decide⟩ ?_
          exact hj38 _ h _
      ·
        have h := wp_pos h q
        refine rs_pure wi_399_23 rfl ?_
        refine rs_topi (v := 4) (by decide) ?_
        refine rs_goto (tg := 38) wi_399_24 ⟨by decide, by decide⟩ ?_
        exact hj38 _ h _
    ·
      have h := wp_pos h q
      refine rs_pure wi_399_14 rfl ?_
      refine rs_topi (v := 2) (by decide) ?_
      refine rs_goto (tg := 38) wi_399_15 ⟨by decide, by decide⟩ ?_
      exact hj38 _ h _
  ·
    have h := wp_pos h q
    refine rs_pure wi_399_5 rfl ?_
    refine rs_topi (v := 1) (by decide) ?_
    refine rs_goto (tg := 38) wi_399_6 ⟨by decide, by decide⟩ ?_
    exact hj38 _ h _
theorem wi_392_0 : ri (rt_P sc fm) 392 0 (.iload_n 1) (1) := ri_of (by decide +kernel) rfl
theorem wi_392_1 : ri (rt_P sc fm) 392 1 (.bipush 20) (3) := ri_of (by decide +kernel) rfl
theorem wi_392_3 : ri (rt_P sc fm) 392 3 (.imul) (4) := ri_of (by decide +kernel) rfl
theorem wi_392_4 : ri (rt_P sc fm) 392 4 (.iload_n 2) (5) := ri_of (by decide +kernel) rfl
theorem wi_392_5 : ri (rt_P sc fm) 392 5 (.iadd) (6) := ri_of (by decide +kernel) rfl
theorem wi_392_6 : ri (rt_P sc fm) 392 6 (.ireturn) (7) := ri_of (by decide +kernel) rfl
theorem wr_392 : rx_rt (rt_P sc fm) 392 = (some FieldType.int) := (by decide +kernel : rt_rt 392 = (some FieldType.int))
/-- MarkHouseModel.place(II)I -/
def d_392 (n : Nat) (a1 : Int32) (a2 : Int32) : Option (Int32) :=
  some ((a1 * 20) + a2)
set_option maxRecDepth 100000 in
set_option maxHeartbeats 4000000 in
theorem sp_392 {F Lo n : Nat} {a1 : Int32} {a2 : Int32} {L : List va_E} {K : Int32 → Prop} {Q : ((Option Value) ⊕ String) → List va_E → Prop} (hF : 0 ≤ F) (hLo : 0 ≤ Lo)  (h : wp (d_392 n a1 a2) K) (hQ : ∀ r, K r → Q (.inl (some (.int r))) L) : rs (rt_P sc fm) 392 F Lo 0 [(0, .ref 174), (1, .int a1), (2, .int a2)] [] L Q := by
  unfold d_392 at h
  obtain ⟨lv, elv⟩ : ∃ lv : rx_L, lv = [(0, .ref 174), (1, .int a1), (2, .int a2)] := ⟨_, rfl⟩
  rw [← elv]
  have l1 : rx_ld lv 1 = some (.int a1) := by rw [elv]; rfl
  have l2 : rx_ld lv 2 = some (.int a2) := by rw [elv]; rfl
  refine rs_ildn wi_392_0 l1 ?_
  refine rs_pure wi_392_1 rfl ?_
  refine rs_topi (v := 20) (by decide) ?_
  refine rs_pure wi_392_3 rfl ?_
  refine rs_ildn wi_392_4 l2 ?_
  refine rs_pure wi_392_5 rfl ?_
  exact rs_iret wi_392_6 wr_392 rfl (hQ ((a1 * 20) + a2) h)
theorem t_223 : ta false 223 1 24380 := ⟨rfl, by decide, by decide⟩
theorem tf_174_61 : fo false 174 15 61 (.ref 223) := ⟨_, rfl, rfl, by decide, by decide⟩
theorem wa_15_392 : rz_cn 15 (rx_yn (rt_P sc fm) 392).cls = true := (by decide +kernel : rz_cn 15 (rt_yn 392).cls = true)
theorem wc_395_543 : rx_ct (rt_P sc fm) 395 543 = some (0, 392, 2) := (by decide +kernel : rt_ct 395 543 = some (0, 392, 2))
theorem wf_395_221 : rx_ft (rt_P sc fm) 395 221 = some (15, 61) := (by decide +kernel : rt_ft 395 221 = some (15, 61))
theorem wi_395_0 : ri (rt_P sc fm) 395 0 (.iconst 0) (1) := ri_of (by decide +kernel) rfl
theorem wi_395_1 : ri (rt_P sc fm) 395 1 (.istore 5) (3) := ri_of (by decide +kernel) rfl
theorem wi_395_12 : ri (rt_P sc fm) 395 12 (.iload 5) (14) := ri_of (by decide +kernel) rfl
theorem wi_395_14 : ri (rt_P sc fm) 395 14 (.ifCond .ne 20) (17) := ri_of (by decide +kernel) rfl
theorem wi_395_17 : ri (rt_P sc fm) 395 17 (.aload_n 0) (18) := ri_of (by decide +kernel) rfl
theorem wi_395_18 : ri (rt_P sc fm) 395 18 (.getfield 221) (21) := ri_of (by decide +kernel) rfl
theorem wi_395_21 : ri (rt_P sc fm) 395 21 (.aload_n 0) (22) := ri_of (by decide +kernel) rfl
theorem wi_395_22 : ri (rt_P sc fm) 395 22 (.iload_n 1) (23) := ri_of (by decide +kernel) rfl
theorem wi_395_23 : ri (rt_P sc fm) 395 23 (.iload 6) (25) := ri_of (by decide +kernel) rfl
theorem wi_395_25 : ri (rt_P sc fm) 395 25 (.invokevirtual 543) (28) := ri_of (by decide +kernel) rfl
theorem wi_395_28 : ri (rt_P sc fm) 395 28 (.laload) (29) := ri_of (by decide +kernel) rfl
theorem wi_395_29 : ri (rt_P sc fm) 395 29 (.lload_n 3) (30) := ri_of (by decide +kernel) rfl
theorem wi_395_3 : ri (rt_P sc fm) 395 3 (.iconst 0) (4) := ri_of (by decide +kernel) rfl
theorem wi_395_30 : ri (rt_P sc fm) 395 30 (.lcmp) (31) := ri_of (by decide +kernel) rfl
theorem wi_395_31 : ri (rt_P sc fm) 395 31 (.ifCond .ne 7) (34) := ri_of (by decide +kernel) rfl
theorem wi_395_34 : ri (rt_P sc fm) 395 34 (.iconst 1) (35) := ri_of (by decide +kernel) rfl
theorem wi_395_35 : ri (rt_P sc fm) 395 35 (.goto 4) (38) := ri_of (by decide +kernel) rfl
theorem wi_395_38 : ri (rt_P sc fm) 395 38 (.iconst 0) (39) := ri_of (by decide +kernel) rfl
theorem wi_395_39 : ri (rt_P sc fm) 395 39 (.istore 5) (41) := ri_of (by decide +kernel) rfl
theorem wi_395_4 : ri (rt_P sc fm) 395 4 (.istore 6) (6) := ri_of (by decide +kernel) rfl
theorem wi_395_41 : ri (rt_P sc fm) 395 41 (.iinc 6 1) (44) := ri_of (by decide +kernel) rfl
theorem wi_395_44 : ri (rt_P sc fm) 395 44 (.goto (-38)) (47) := ri_of (by decide +kernel) rfl
theorem wi_395_47 : ri (rt_P sc fm) 395 47 (.iload 5) (49) := ri_of (by decide +kernel) rfl
theorem wi_395_49 : ri (rt_P sc fm) 395 49 (.ireturn) (50) := ri_of (by decide +kernel) rfl
theorem wi_395_6 : ri (rt_P sc fm) 395 6 (.iload 6) (8) := ri_of (by decide +kernel) rfl
theorem wi_395_8 : ri (rt_P sc fm) 395 8 (.iload_n 2) (9) := ri_of (by decide +kernel) rfl
theorem wi_395_9 : ri (rt_P sc fm) 395 9 (.if_icmp .ge 38) (12) := ri_of (by decide +kernel) rfl
theorem wm_392 : rx_ml (rt_P sc fm) 392 = 3 := (by decide +kernel : rt_ml 392 = 3)
theorem wr_395 : rx_rt (rt_P sc fm) 395 = (some FieldType.boolean) := (by decide +kernel : rt_rt 395 = (some FieldType.boolean))
/-- MarkHouseModel.hasName(IIJ)Z -/
def d_395 (n : Nat) (a1 : Int32) (a2 : Int32) (a3 : Int64) (c : cS) : Option (Int32) :=
  Option.bind (whl (R := (Int32)) (fun s3 : Int32 × Int32 =>
    if a2 ≤ s3.2 then
      some (.inr s3.1)
    else
      jn (fun p4 : Int32 =>
        lt (s3.2 + 1 : Int32) (fun v7 =>
        some (.inl (p4, v7))))
      (fun j39 =>
      jn (fun p9 : Unit =>
        j39 1)
      (fun j34 =>
      if s3.1 = 0 then
        Option.bind (d_392 n a1 s3.2) (fun v10 =>
        if ib v10 24380 then
        if (lg_cmp (c.2 223 (ix v10)) a3) = 0 then
          j34 ()
        else
          j39 0
        else none)
      else
        j34 ()))) n (0, 0))
  (fun x12 : Int32 =>
    if nb x12 then
    some x12
    else none)
set_option maxRecDepth 100000 in
set_option maxHeartbeats 4000000 in
theorem sp_395 {F Lo n : Nat} {a1 : Int32} {a2 : Int32} {a3 : Int64} {c y : cS} {w : cW} {K : Int32 → Prop} {Q : ((Option Value) ⊕ String) → List va_E → Prop} (hw : rOK fm w) (hF : 1 ≤ F) (hLo : 22 ≤ Lo)  (h : wp (d_395 n a1 a2 a3 c) K) (hQ : ∀ r, K r → Q (.inl (some (.int r))) (hq false c y w)) : rs (rt_P sc fm) 395 F Lo 0 [(0, .ref 174), (1, .int a1), (2, .int a2), (3, .long a3)] [] (hq false c y w) Q := by
  unfold d_395 at h
  obtain ⟨lv, elv⟩ : ∃ lv : rx_L, lv = [(0, .ref 174), (1, .int a1), (2, .int a2), (3, .long a3)] := ⟨_, rfl⟩
  rw [← elv]
  have l0 : rx_ld lv 0 = some (.ref 174) := by rw [elv]; rfl
  have l1 : rx_ld lv 1 = some (.int a1) := by rw [elv]; rfl
  have l2 : rx_ld lv 2 = some (.int a2) := by rw [elv]; rfl
  have l3 : rx_ld lv 3 = some (.long a3) := by rw [elv]; rfl
  refine rs_pure wi_395_0 rfl ?_
  refine rs_topi (v := 0) (by decide) ?_
  refine dl_ist wi_395_1 rfl (fun lv l5 t1 => ?_)
  have l0 := t1 _ _ (by decide) (Or.inl rfl) l0
  have l1 := t1 _ _ (by decide) (Or.inl rfl) l1
  have l2 := t1 _ _ (by decide) (Or.inl rfl) l2
  have l3 := t1 _ _ (by decide) (Or.inr (by decide)) l3
  refine rs_pure wi_395_3 rfl ?_
  refine rs_topi (v := 0) (by decide) ?_
  refine dl_ist wi_395_4 rfl (fun lv l6 t2 => ?_)
  have l0 := t2 _ _ (by decide) (Or.inl rfl) l0
  have l1 := t2 _ _ (by decide) (Or.inl rfl) l1
  have l2 := t2 _ _ (by decide) (Or.inl rfl) l2
  have l3 := t2 _ _ (by decide) (Or.inr (by decide)) l3
  have l5 := t2 _ _ (by decide) (Or.inl rfl) l5
  refine whl_ex (A := fun s3 : Int32 × Int32 => ∀ lv, rx_ld lv 0 = some (.ref 174) → rx_ld lv 1 = some (.int a1) → rx_ld lv 2 = some (.int a2) → rx_ld lv 3 = some (.long a3) → rx_ld lv 5 = some (.int s3.1) → rx_ld lv 6 = some (.int s3.2) → rs (rt_P sc fm) 395 F Lo 6 lv [] (hq false c y w) Q) (B := (fun x12 : Int32 => ∀ lv, rx_ld lv 5 = some (.int x12) → rs (rt_P sc fm) 395 F Lo 47 lv [] (hq false c y w) Q)) ?_ ?_ _ _ (wp_bind h) _ l0 l1 l2 l3 l5 l6
  · intro s3 h lv l0 l1 l2 l3 l5 l6
    refine rs_ild wi_395_6 l6 ?_
    refine rs_ildn wi_395_8 l2 ?_
    refine rs_icge (tg := 47) wi_395_9 ⟨by decide, by decide⟩ (fun q => ?_) (fun q => ?_)
    ·
      have h := wp_pos h q
      exact h _ l5
    ·
      have h := wp_neg h q
      refine rs_ild wi_395_12 l5 ?_
      refine wp_jn (B := fun p4 : Int32 => ∀ lv, rx_ld lv 0 = some (.ref 174) → rx_ld lv 1 = some (.int a1) → rx_ld lv 2 = some (.int a2) → rx_ld lv 3 = some (.long a3) → rx_ld lv 6 = some (.int s3.2) → rs (rt_P sc fm) 395 F Lo 39 lv [.int p4] (hq false c y w) Q) h (fun p4 h lv l0 l1 l2 l3 l6 => ?_) (fun j39 hj39 h => ?_)
      ·
        refine dl_ist wi_395_39 rfl (fun lv l5 t5 => ?_)
        have l0 := t5 _ _ (by decide) (Or.inl rfl) l0
        have l1 := t5 _ _ (by decide) (Or.inl rfl) l1
        have l2 := t5 _ _ (by decide) (Or.inl rfl) l2
        have l3 := t5 _ _ (by decide) (Or.inr (by decide)) l3
        have l6 := t5 _ _ (by decide) (Or.inl rfl) l6
        obtain ⟨v7, e8, h⟩ := wp_lt h
        refine dl_inc wi_395_41 l6 rfl e8 (fun lv l6 t6 => ?_)
        have l0 := t6 _ _ (by decide) (Or.inl rfl) l0
        have l1 := t6 _ _ (by decide) (Or.inl rfl) l1
        have l2 := t6 _ _ (by decide) (Or.inl rfl) l2
        have l3 := t6 _ _ (by decide) (Or.inr (by decide)) l3
        have l5 := t6 _ _ (by decide) (Or.inl rfl) l5
        refine rs_goto (tg := 6) wi_395_44 ⟨by decide, by decide⟩ ?_
        exact h _ l0 l1 l2 l3 l5 l6
      refine wp_jn (B := fun p9 : Unit => ∀ lv, rx_ld lv 0 = some (.ref 174) → rx_ld lv 1 = some (.int a1) → rx_ld lv 2 = some (.int a2) → rx_ld lv 3 = some (.long a3) → rx_ld lv 6 = some (.int s3.2) → rs (rt_P sc fm) 395 F Lo 34 lv [] (hq false c y w) Q) h (fun p9 h lv l0 l1 l2 l3 l6 => ?_) (fun j34 hj34 h => ?_)
      ·
        refine rs_pure wi_395_34 rfl ?_
        refine rs_topi (v := 1) (by decide) ?_
        refine rs_goto (tg := 39) wi_395_35 ⟨by decide, by decide⟩ ?_
        exact hj39 _ h _ l0 l1 l2 l3 l6
      refine rs_ifne (tg := 34) wi_395_14 ⟨by decide, by decide⟩ (fun q => ?_) (fun q => ?_)
      ·
        have h := wp_neg h q
        exact hj34 _ h _ l0 l1 l2 l3 l6
      ·
        have h := wp_pos h q
        refine rs_aldn wi_395_17 l0 ?_
        refine dq_gr wi_395_18 wf_395_221 tf_174_61 ?_
        refine rs_aldn wi_395_21 l0 ?_
        refine rs_ildn wi_395_22 l1 ?_
        refine rs_ild wi_395_23 l6 ?_
        refine rs_V wi_395_25 wc_395_543 rfl (dq_isa tf_174_0 wa_15_392) (Nat.le_trans (by decide) hF) (ml_le wm_392 (Nat.le_trans (by decide) hLo)) rfl (sp_392 (Nat.le_trans (by decide : 0 ≤ 1 - 1) (Nat.sub_le_sub_right hF 1)) (ml_sub wm_392 (Nat.le_trans (by decide : 0 ≤ 22 - 22) (Nat.sub_le_sub_right hLo 22))) (wp_bind h) (fun v10 h => rs_back1 ?_))
        obtain ⟨g11, h⟩ := wp_gd h
        refine dq_lald wi_395_28 t_223 g11 ?_
        refine rs_lldn wi_395_29 l3 ?_
        refine rs_pure wi_395_30 rfl ?_
        refine rs_ifne (tg := 38) wi_395_31 ⟨by decide, by decide⟩ (fun q => ?_) (fun q => ?_)
        ·
          have h := wp_neg h q
          refine rs_pure wi_395_38 rfl ?_
          refine rs_topi (v := 0) (by decide) ?_
          exact hj39 _ h _ l0 l1 l2 l3 l6
        ·
          have h := wp_pos h q
          exact hj34 _ h _ l0 l1 l2 l3 l6
  ·
    intro x12 h lv l5
    refine rs_ild wi_395_47 l5 ?_
    obtain ⟨g13, h⟩ := wp_gd h
    exact rs_iret wi_395_49 wr_395 (nb_n g13) (hQ x12 h)
theorem t_222 : ta false 222 0 1219 := ⟨rfl, by decide, by decide⟩
theorem t_224 : ta false 224 3 24380 := ⟨rfl, by decide, by decide⟩
theorem t_225 : ta false 225 0 24380 := ⟨rfl, by decide, by decide⟩
theorem tf_174_60 : fo false 174 15 60 (.ref 222) := ⟨_, rfl, rfl, by decide, by decide⟩
theorem tf_174_62 : fo false 174 15 62 (.ref 224) := ⟨_, rfl, rfl, by decide, by decide⟩
theorem tf_174_63 : fo false 174 15 63 (.ref 225) := ⟨_, rfl, rfl, by decide, by decide⟩
theorem wc_393_543 : rx_ct (rt_P sc fm) 393 543 = some (0, 392, 2) := (by decide +kernel : rt_ct 393 543 = some (0, 392, 2))
theorem wf_393_218 : rx_ft (rt_P sc fm) 393 218 = some (15, 60) := (by decide +kernel : rt_ft 393 218 = some (15, 60))
theorem wf_393_221 : rx_ft (rt_P sc fm) 393 221 = some (15, 61) := (by decide +kernel : rt_ft 393 221 = some (15, 61))
theorem wf_393_224 : rx_ft (rt_P sc fm) 393 224 = some (15, 62) := (by decide +kernel : rt_ft 393 224 = some (15, 62))
theorem wf_393_227 : rx_ft (rt_P sc fm) 393 227 = some (15, 63) := (by decide +kernel : rt_ft 393 227 = some (15, 63))
theorem wi_393_0 : ri (rt_P sc fm) 393 0 (.aload_n 0) (1) := ri_of (by decide +kernel) rfl
theorem wi_393_1 : ri (rt_P sc fm) 393 1 (.iload_n 1) (2) := ri_of (by decide +kernel) rfl
theorem wi_393_11 : ri (rt_P sc fm) 393 11 (.istore 5) (13) := ri_of (by decide +kernel) rfl
theorem wi_393_13 : ri (rt_P sc fm) 393 13 (.aload_n 0) (14) := ri_of (by decide +kernel) rfl
theorem wi_393_14 : ri (rt_P sc fm) 393 14 (.getfield 221) (17) := ri_of (by decide +kernel) rfl
theorem wi_393_17 : ri (rt_P sc fm) 393 17 (.iload 5) (19) := ri_of (by decide +kernel) rfl
theorem wi_393_19 : ri (rt_P sc fm) 393 19 (.lload_n 2) (20) := ri_of (by decide +kernel) rfl
theorem wi_393_2 : ri (rt_P sc fm) 393 2 (.aload_n 0) (3) := ri_of (by decide +kernel) rfl
theorem wi_393_20 : ri (rt_P sc fm) 393 20 (.lastore) (21) := ri_of (by decide +kernel) rfl
theorem wi_393_21 : ri (rt_P sc fm) 393 21 (.aload_n 0) (22) := ri_of (by decide +kernel) rfl
theorem wi_393_22 : ri (rt_P sc fm) 393 22 (.getfield 224) (25) := ri_of (by decide +kernel) rfl
theorem wi_393_25 : ri (rt_P sc fm) 393 25 (.iload 5) (27) := ri_of (by decide +kernel) rfl
theorem wi_393_27 : ri (rt_P sc fm) 393 27 (.iload 4) (29) := ri_of (by decide +kernel) rfl
theorem wi_393_29 : ri (rt_P sc fm) 393 29 (.bastore) (30) := ri_of (by decide +kernel) rfl
theorem wi_393_3 : ri (rt_P sc fm) 393 3 (.getfield 218) (6) := ri_of (by decide +kernel) rfl
theorem wi_393_30 : ri (rt_P sc fm) 393 30 (.aload_n 0) (31) := ri_of (by decide +kernel) rfl
theorem wi_393_31 : ri (rt_P sc fm) 393 31 (.getfield 227) (34) := ri_of (by decide +kernel) rfl
theorem wi_393_34 : ri (rt_P sc fm) 393 34 (.iload 5) (36) := ri_of (by decide +kernel) rfl
theorem wi_393_36 : ri (rt_P sc fm) 393 36 (.iconst 0) (37) := ri_of (by decide +kernel) rfl
theorem wi_393_37 : ri (rt_P sc fm) 393 37 (.iastore) (38) := ri_of (by decide +kernel) rfl
theorem wi_393_38 : ri (rt_P sc fm) 393 38 (.aload_n 0) (39) := ri_of (by decide +kernel) rfl
theorem wi_393_39 : ri (rt_P sc fm) 393 39 (.getfield 218) (42) := ri_of (by decide +kernel) rfl
theorem wi_393_42 : ri (rt_P sc fm) 393 42 (.iload_n 1) (43) := ri_of (by decide +kernel) rfl
theorem wi_393_43 : ri (rt_P sc fm) 393 43 (.dup2) (44) := ri_of (by decide +kernel) rfl
theorem wi_393_44 : ri (rt_P sc fm) 393 44 (.iaload) (45) := ri_of (by decide +kernel) rfl
theorem wi_393_45 : ri (rt_P sc fm) 393 45 (.iconst 1) (46) := ri_of (by decide +kernel) rfl
theorem wi_393_46 : ri (rt_P sc fm) 393 46 (.iadd) (47) := ri_of (by decide +kernel) rfl
theorem wi_393_47 : ri (rt_P sc fm) 393 47 (.iastore) (48) := ri_of (by decide +kernel) rfl
theorem wi_393_48 : ri (rt_P sc fm) 393 48 (.return_) (49) := ri_of (by decide +kernel) rfl
theorem wi_393_6 : ri (rt_P sc fm) 393 6 (.iload_n 1) (7) := ri_of (by decide +kernel) rfl
theorem wi_393_7 : ri (rt_P sc fm) 393 7 (.iaload) (8) := ri_of (by decide +kernel) rfl
theorem wi_393_8 : ri (rt_P sc fm) 393 8 (.invokevirtual 543) (11) := ri_of (by decide +kernel) rfl
theorem wr_393 : rx_rt (rt_P sc fm) 393 = none := (by decide +kernel : rt_rt 393 = none)
/-- MarkHouseModel.newMark(IJZ)V -/
def d_393 (n : Nat) (a1 : Int32) (a2 : Int64) (a4 : Int32) (c : cS) : Option (cS) :=
  if ib a1 1219 then
  Option.bind (d_392 n a1 (c.1 222 (ix a1))) (fun v2 =>
  if ib v2 24380 then
  lt (pL c 223 (ix v2) a2) (fun c5 =>
  if ib v2 24380 then
  lt (pI c5 224 (ix v2) (vp_nar .boolean a4)) (fun c8 =>
  if ib v2 24380 then
  lt (pI c8 225 (ix v2) 0) (fun c11 =>
  if ib a1 1219 then
  if ib a1 1219 then
  lt (pI c11 222 (ix a1) ((c11.1 222 (ix a1)) + 1)) (fun c15 =>
  some c15)
  else none
  else none)
  else none)
  else none)
  else none)
  else none
set_option maxRecDepth 100000 in
set_option maxHeartbeats 4000000 in
theorem sp_393 {F Lo n : Nat} {a1 : Int32} {a2 : Int64} {a4 : Int32} {c y : cS} {w : cW} {K : cS → Prop} {Q : ((Option Value) ⊕ String) → List va_E → Prop} (hw : rOK fm w) (hF : 1 ≤ F) (hLo : 22 ≤ Lo)  (h : wp (d_393 n a1 a2 a4 c) K) (hQ : ∀ r, K r → Q (.inl none) (hq false r y w)) : rs (rt_P sc fm) 393 F Lo 0 [(0, .ref 174), (1, .int a1), (2, .long a2), (4, .int a4)] [] (hq false c y w) Q := by
  unfold d_393 at h
  obtain ⟨lv, elv⟩ : ∃ lv : rx_L, lv = [(0, .ref 174), (1, .int a1), (2, .long a2), (4, .int a4)] := ⟨_, rfl⟩
  rw [← elv]
  have l0 : rx_ld lv 0 = some (.ref 174) := by rw [elv]; rfl
  have l1 : rx_ld lv 1 = some (.int a1) := by rw [elv]; rfl
  have l2 : rx_ld lv 2 = some (.long a2) := by rw [elv]; rfl
  have l4 : rx_ld lv 4 = some (.int a4) := by rw [elv]; rfl
  refine rs_aldn wi_393_0 l0 ?_
  refine rs_ildn wi_393_1 l1 ?_
  refine rs_aldn wi_393_2 l0 ?_
  refine dq_gr wi_393_3 wf_393_218 tf_174_60 ?_
  refine rs_ildn wi_393_6 l1 ?_
  obtain ⟨g1, h⟩ := wp_gd h
  refine dq_iald wi_393_7 t_222 g1 ?_
  refine rs_V wi_393_8 wc_393_543 rfl (dq_isa tf_174_0 wa_15_392) (Nat.le_trans (by decide) hF) (ml_le wm_392 (Nat.le_trans (by decide) hLo)) rfl (sp_392 (Nat.le_trans (by decide : 0 ≤ 1 - 1) (Nat.sub_le_sub_right hF 1)) (ml_sub wm_392 (Nat.le_trans (by decide : 0 ≤ 22 - 22) (Nat.sub_le_sub_right hLo 22))) (wp_bind h) (fun v2 h => rs_back1 ?_))
  refine dl_ist wi_393_11 rfl (fun lv l5 t3 => ?_)
  have l0 := t3 _ _ (by decide) (Or.inl rfl) l0
  have l1 := t3 _ _ (by decide) (Or.inl rfl) l1
  have l2 := t3 _ _ (by decide) (Or.inr (by decide)) l2
  have l4 := t3 _ _ (by decide) (Or.inl rfl) l4
  refine rs_aldn wi_393_13 l0 ?_
  refine dq_gr wi_393_14 wf_393_221 tf_174_61 ?_
  refine rs_ild wi_393_17 l5 ?_
  refine rs_lldn wi_393_19 l2 ?_
  obtain ⟨g4, h⟩ := wp_gd h
  obtain ⟨c5, e6, h⟩ := wp_lt h
  refine dq_last wi_393_20 t_223 g4 e6 ?_
  refine rs_aldn wi_393_21 l0 ?_
  refine dq_gr wi_393_22 wf_393_224 tf_174_62 ?_
  refine rs_ild wi_393_25 l5 ?_
  refine rs_ild wi_393_27 l4 ?_
  obtain ⟨g7, h⟩ := wp_gd h
  obtain ⟨c8, e9, h⟩ := wp_lt h
  refine dq_zast wi_393_29 t_224 g7 e9 ?_
  refine rs_aldn wi_393_30 l0 ?_
  refine dq_gr wi_393_31 wf_393_227 tf_174_63 ?_
  refine rs_ild wi_393_34 l5 ?_
  refine rs_pure wi_393_36 rfl ?_
  refine rs_topi (v := 0) (by decide) ?_
  obtain ⟨g10, h⟩ := wp_gd h
  obtain ⟨c11, e12, h⟩ := wp_lt h
  refine dq_iast wi_393_37 t_225 g10 e12 ?_
  refine rs_aldn wi_393_38 l0 ?_
  refine dq_gr wi_393_39 wf_393_218 tf_174_60 ?_
  refine rs_ildn wi_393_42 l1 ?_
  refine rs_pure wi_393_43 rfl ?_
  obtain ⟨g13, h⟩ := wp_gd h
  refine dq_iald wi_393_44 t_222 g13 ?_
  refine rs_pure wi_393_45 rfl ?_
  refine rs_topi (v := 1) (by decide) ?_
  refine rs_pure wi_393_46 rfl ?_
  obtain ⟨g14, h⟩ := wp_gd h
  obtain ⟨c15, e16, h⟩ := wp_lt h
  refine dq_iast wi_393_47 t_222 g14 e16 ?_
  exact rs_vret wi_393_48 wr_393 (hQ c15 h)
theorem t_226 : ta false 226 1 97520 := ⟨rfl, by decide, by decide⟩
theorem t_227 : ta false 227 0 97520 := ⟨rfl, by decide, by decide⟩
theorem t_228 : ta false 228 1 97520 := ⟨rfl, by decide, by decide⟩
theorem tf_174_64 : fo false 174 15 64 (.ref 226) := ⟨_, rfl, rfl, by decide, by decide⟩
theorem tf_174_65 : fo false 174 15 65 (.ref 227) := ⟨_, rfl, rfl, by decide, by decide⟩
theorem tf_174_66 : fo false 174 15 66 (.ref 228) := ⟨_, rfl, rfl, by decide, by decide⟩
theorem wf_394_227 : rx_ft (rt_P sc fm) 394 227 = some (15, 63) := (by decide +kernel : rt_ft 394 227 = some (15, 63))
theorem wf_394_231 : rx_ft (rt_P sc fm) 394 231 = some (15, 64) := (by decide +kernel : rt_ft 394 231 = some (15, 64))
theorem wf_394_234 : rx_ft (rt_P sc fm) 394 234 = some (15, 65) := (by decide +kernel : rt_ft 394 234 = some (15, 65))
theorem wf_394_237 : rx_ft (rt_P sc fm) 394 237 = some (15, 66) := (by decide +kernel : rt_ft 394 237 = some (15, 66))
theorem wi_394_0 : ri (rt_P sc fm) 394 0 (.iload_n 1) (1) := ri_of (by decide +kernel) rfl
theorem wi_394_1 : ri (rt_P sc fm) 394 1 (.iconst 4) (2) := ri_of (by decide +kernel) rfl
theorem wi_394_10 : ri (rt_P sc fm) 394 10 (.istore 7) (12) := ri_of (by decide +kernel) rfl
theorem wi_394_12 : ri (rt_P sc fm) 394 12 (.aload_n 0) (13) := ri_of (by decide +kernel) rfl
theorem wi_394_13 : ri (rt_P sc fm) 394 13 (.getfield 231) (16) := ri_of (by decide +kernel) rfl
theorem wi_394_16 : ri (rt_P sc fm) 394 16 (.iload 7) (18) := ri_of (by decide +kernel) rfl
theorem wi_394_18 : ri (rt_P sc fm) 394 18 (.lload_n 2) (19) := ri_of (by decide +kernel) rfl
theorem wi_394_19 : ri (rt_P sc fm) 394 19 (.lastore) (20) := ri_of (by decide +kernel) rfl
theorem wi_394_2 : ri (rt_P sc fm) 394 2 (.imul) (3) := ri_of (by decide +kernel) rfl
theorem wi_394_20 : ri (rt_P sc fm) 394 20 (.aload_n 0) (21) := ri_of (by decide +kernel) rfl
theorem wi_394_21 : ri (rt_P sc fm) 394 21 (.getfield 234) (24) := ri_of (by decide +kernel) rfl
theorem wi_394_24 : ri (rt_P sc fm) 394 24 (.iload 7) (26) := ri_of (by decide +kernel) rfl
theorem wi_394_26 : ri (rt_P sc fm) 394 26 (.iload 4) (28) := ri_of (by decide +kernel) rfl
theorem wi_394_28 : ri (rt_P sc fm) 394 28 (.iastore) (29) := ri_of (by decide +kernel) rfl
theorem wi_394_29 : ri (rt_P sc fm) 394 29 (.aload_n 0) (30) := ri_of (by decide +kernel) rfl
theorem wi_394_3 : ri (rt_P sc fm) 394 3 (.aload_n 0) (4) := ri_of (by decide +kernel) rfl
theorem wi_394_30 : ri (rt_P sc fm) 394 30 (.getfield 237) (33) := ri_of (by decide +kernel) rfl
theorem wi_394_33 : ri (rt_P sc fm) 394 33 (.iload 7) (35) := ri_of (by decide +kernel) rfl
theorem wi_394_35 : ri (rt_P sc fm) 394 35 (.lload 5) (37) := ri_of (by decide +kernel) rfl
theorem wi_394_37 : ri (rt_P sc fm) 394 37 (.lastore) (38) := ri_of (by decide +kernel) rfl
theorem wi_394_38 : ri (rt_P sc fm) 394 38 (.aload_n 0) (39) := ri_of (by decide +kernel) rfl
theorem wi_394_39 : ri (rt_P sc fm) 394 39 (.getfield 227) (42) := ri_of (by decide +kernel) rfl
theorem wi_394_4 : ri (rt_P sc fm) 394 4 (.getfield 227) (7) := ri_of (by decide +kernel) rfl
theorem wi_394_42 : ri (rt_P sc fm) 394 42 (.iload_n 1) (43) := ri_of (by decide +kernel) rfl
theorem wi_394_43 : ri (rt_P sc fm) 394 43 (.dup2) (44) := ri_of (by decide +kernel) rfl
theorem wi_394_44 : ri (rt_P sc fm) 394 44 (.iaload) (45) := ri_of (by decide +kernel) rfl
theorem wi_394_45 : ri (rt_P sc fm) 394 45 (.iconst 1) (46) := ri_of (by decide +kernel) rfl
theorem wi_394_46 : ri (rt_P sc fm) 394 46 (.iadd) (47) := ri_of (by decide +kernel) rfl
theorem wi_394_47 : ri (rt_P sc fm) 394 47 (.iastore) (48) := ri_of (by decide +kernel) rfl
theorem wi_394_48 : ri (rt_P sc fm) 394 48 (.return_) (49) := ri_of (by decide +kernel) rfl
theorem wi_394_7 : ri (rt_P sc fm) 394 7 (.iload_n 1) (8) := ri_of (by decide +kernel) rfl
theorem wi_394_8 : ri (rt_P sc fm) 394 8 (.iaload) (9) := ri_of (by decide +kernel) rfl
theorem wi_394_9 : ri (rt_P sc fm) 394 9 (.iadd) (10) := ri_of (by decide +kernel) rfl
theorem wr_394 : rx_rt (rt_P sc fm) 394 = none := (by decide +kernel : rt_rt 394 = none)
/-- MarkHouseModel.newPair(IJIJ)V -/
def d_394 (n : Nat) (a1 : Int32) (a2 : Int64) (a4 : Int32) (a5 : Int64) (c : cS) : Option (cS) :=
  if ib a1 24380 then
  lt (((a1 * 4) + (c.1 225 (ix a1))) : Int32) (fun v3 =>
  if ib v3 97520 then
  lt (pL c 226 (ix v3) a2) (fun c6 =>
  if ib v3 97520 then
  lt (pI c6 227 (ix v3) a4) (fun c9 =>
  if ib v3 97520 then
  lt (pL c9 228 (ix v3) a5) (fun c12 =>
  if ib a1 24380 then
  if ib a1 24380 then
  lt (pI c12 225 (ix a1) ((c12.1 225 (ix a1)) + 1)) (fun c16 =>
  some c16)
  else none
  else none)
  else none)
  else none)
  else none)
  else none
set_option maxRecDepth 100000 in
set_option maxHeartbeats 4000000 in
theorem sp_394 {F Lo n : Nat} {a1 : Int32} {a2 : Int64} {a4 : Int32} {a5 : Int64} {c y : cS} {w : cW} {K : cS → Prop} {Q : ((Option Value) ⊕ String) → List va_E → Prop} (hw : rOK fm w) (hF : 0 ≤ F) (hLo : 0 ≤ Lo)  (h : wp (d_394 n a1 a2 a4 a5 c) K) (hQ : ∀ r, K r → Q (.inl none) (hq false r y w)) : rs (rt_P sc fm) 394 F Lo 0 [(0, .ref 174), (1, .int a1), (2, .long a2), (4, .int a4), (5, .long a5)] [] (hq false c y w) Q := by
  unfold d_394 at h
  obtain ⟨lv, elv⟩ : ∃ lv : rx_L, lv = [(0, .ref 174), (1, .int a1), (2, .long a2), (4, .int a4), (5, .long a5)] := ⟨_, rfl⟩
  rw [← elv]
  have l0 : rx_ld lv 0 = some (.ref 174) := by rw [elv]; rfl
  have l1 : rx_ld lv 1 = some (.int a1) := by rw [elv]; rfl
  have l2 : rx_ld lv 2 = some (.long a2) := by rw [elv]; rfl
  have l4 : rx_ld lv 4 = some (.int a4) := by rw [elv]; rfl
  have l5 : rx_ld lv 5 = some (.long a5) := by rw [elv]; rfl
  refine rs_ildn wi_394_0 l1 ?_
  refine rs_pure wi_394_1 rfl ?_
  refine rs_topi (v := 4) (by decide) ?_
  refine rs_pure wi_394_2 rfl ?_
  refine rs_aldn wi_394_3 l0 ?_
  refine dq_gr wi_394_4 wf_394_227 tf_174_63 ?_
  refine rs_ildn wi_394_7 l1 ?_
  obtain ⟨g1, h⟩ := wp_gd h
  refine dq_iald wi_394_8 t_225 g1 ?_
  refine rs_pure wi_394_9 rfl ?_
  obtain ⟨v3, e4, h⟩ := wp_lt h
  refine rs_topi e4 ?_
  refine dl_ist wi_394_10 rfl (fun lv l7 t2 => ?_)
  have l0 := t2 _ _ (by decide) (Or.inl rfl) l0
  have l1 := t2 _ _ (by decide) (Or.inl rfl) l1
  have l2 := t2 _ _ (by decide) (Or.inr (by decide)) l2
  have l4 := t2 _ _ (by decide) (Or.inl rfl) l4
  have l5 := t2 _ _ (by decide) (Or.inr (by decide)) l5
  refine rs_aldn wi_394_12 l0 ?_
  refine dq_gr wi_394_13 wf_394_231 tf_174_64 ?_
  refine rs_ild wi_394_16 l7 ?_
  refine rs_lldn wi_394_18 l2 ?_
  obtain ⟨g5, h⟩ := wp_gd h
  obtain ⟨c6, e7, h⟩ := wp_lt h
  refine dq_last wi_394_19 t_226 g5 e7 ?_
  refine rs_aldn wi_394_20 l0 ?_
  refine dq_gr wi_394_21 wf_394_234 tf_174_65 ?_
  refine rs_ild wi_394_24 l7 ?_
  refine rs_ild wi_394_26 l4 ?_
  obtain ⟨g8, h⟩ := wp_gd h
  obtain ⟨c9, e10, h⟩ := wp_lt h
  refine dq_iast wi_394_28 t_227 g8 e10 ?_
  refine rs_aldn wi_394_29 l0 ?_
  refine dq_gr wi_394_30 wf_394_237 tf_174_66 ?_
  refine rs_ild wi_394_33 l7 ?_
  refine rs_lld wi_394_35 l5 ?_
  obtain ⟨g11, h⟩ := wp_gd h
  obtain ⟨c12, e13, h⟩ := wp_lt h
  refine dq_last wi_394_37 t_228 g11 e13 ?_
  refine rs_aldn wi_394_38 l0 ?_
  refine dq_gr wi_394_39 wf_394_227 tf_174_63 ?_
  refine rs_ildn wi_394_42 l1 ?_
  refine rs_pure wi_394_43 rfl ?_
  obtain ⟨g14, h⟩ := wp_gd h
  refine dq_iald wi_394_44 t_225 g14 ?_
  refine rs_pure wi_394_45 rfl ?_
  refine rs_topi (v := 1) (by decide) ?_
  refine rs_pure wi_394_46 rfl ?_
  obtain ⟨g15, h⟩ := wp_gd h
  obtain ⟨c16, e17, h⟩ := wp_lt h
  refine dq_iast wi_394_47 t_225 g15 e17 ?_
  exact rs_vret wi_394_48 wr_394 (hQ c16 h)
theorem wa_15_394 : rz_cn 15 (rx_yn (rt_P sc fm) 394).cls = true := (by decide +kernel : rz_cn 15 (rt_yn 394).cls = true)
theorem wc_398_432 : rx_ct (rt_P sc fm) 398 432 = some (0, 97, 2) := (by decide +kernel : rt_ct 398 432 = some (0, 97, 2))
theorem wc_398_483 : rx_ct (rt_P sc fm) 398 483 = some (0, 379, 1) := (by decide +kernel : rt_ct 398 483 = some (0, 379, 1))
theorem wc_398_505 : rx_ct (rt_P sc fm) 398 505 = some (0, 381, 0) := (by decide +kernel : rt_ct 398 505 = some (0, 381, 0))
theorem wc_398_521 : rx_ct (rt_P sc fm) 398 521 = some (0, 380, 1) := (by decide +kernel : rt_ct 398 521 = some (0, 380, 1))
theorem wc_398_561 : rx_ct (rt_P sc fm) 398 561 = some (0, 394, 4) := (by decide +kernel : rt_ct 398 561 = some (0, 394, 4))
theorem wc_398_568 : rx_ct (rt_P sc fm) 398 568 = some (0, 378, 2) := (by decide +kernel : rt_ct 398 568 = some (0, 378, 2))
theorem wc_398_571 : rx_ct (rt_P sc fm) 398 571 = some (0, 382, 2) := (by decide +kernel : rt_ct 398 571 = some (0, 382, 2))
theorem wf_398_128 : rx_ft (rt_P sc fm) 398 128 = some (15, 28) := (by decide +kernel : rt_ft 398 128 = some (15, 28))
theorem wf_398_227 : rx_ft (rt_P sc fm) 398 227 = some (15, 63) := (by decide +kernel : rt_ft 398 227 = some (15, 63))
theorem wf_398_231 : rx_ft (rt_P sc fm) 398 231 = some (15, 64) := (by decide +kernel : rt_ft 398 231 = some (15, 64))
theorem wf_398_409 : rx_ft (rt_P sc fm) 398 409 = some (15, 13) := (by decide +kernel : rt_ft 398 409 = some (15, 13))
theorem wf_398_471 : rx_ft (rt_P sc fm) 398 471 = some (15, 67) := (by decide +kernel : rt_ft 398 471 = some (15, 67))
theorem wf_398_486 : rx_ft (rt_P sc fm) 398 486 = some (15, 68) := (by decide +kernel : rt_ft 398 486 = some (15, 68))
theorem wf_398_87 : rx_ft (rt_P sc fm) 398 87 = some (15, 9) := (by decide +kernel : rt_ft 398 87 = some (15, 9))
theorem wi_398_0 : ri (rt_P sc fm) 398 0 (.iconst 1) (1) := ri_of (by decide +kernel) rfl
theorem wi_398_1 : ri (rt_P sc fm) 398 1 (.istore_n 3) (2) := ri_of (by decide +kernel) rfl
theorem wi_398_10 : ri (rt_P sc fm) 398 10 (.ifCond .ne 171) (13) := ri_of (by decide +kernel) rfl
theorem wi_398_102 : ri (rt_P sc fm) 398 102 (.iinc 8 1) (105) := ri_of (by decide +kernel) rfl
theorem wi_398_105 : ri (rt_P sc fm) 398 105 (.goto (-43)) (108) := ri_of (by decide +kernel) rfl
theorem wi_398_108 : ri (rt_P sc fm) 398 108 (.aload_n 0) (109) := ri_of (by decide +kernel) rfl
theorem wi_398_109 : ri (rt_P sc fm) 398 109 (.bipush 61) (111) := ri_of (by decide +kernel) rfl
theorem wi_398_111 : ri (rt_P sc fm) 398 111 (.invokevirtual 521) (114) := ri_of (by decide +kernel) rfl
theorem wi_398_114 : ri (rt_P sc fm) 398 114 (.aload_n 0) (115) := ri_of (by decide +kernel) rfl
theorem wi_398_115 : ri (rt_P sc fm) 398 115 (.getfield 409) (118) := ri_of (by decide +kernel) rfl
theorem wi_398_118 : ri (rt_P sc fm) 398 118 (.ifCond .eq 4) (121) := ri_of (by decide +kernel) rfl
theorem wi_398_121 : ri (rt_P sc fm) 398 121 (.return_) (122) := ri_of (by decide +kernel) rfl
theorem wi_398_122 : ri (rt_P sc fm) 398 122 (.aload_n 0) (123) := ri_of (by decide +kernel) rfl
theorem wi_398_123 : ri (rt_P sc fm) 398 123 (.getfield 128) (126) := ri_of (by decide +kernel) rfl
theorem wi_398_126 : ri (rt_P sc fm) 398 126 (.iconst 4) (127) := ri_of (by decide +kernel) rfl
theorem wi_398_127 : ri (rt_P sc fm) 398 127 (.iload_n 2) (128) := ri_of (by decide +kernel) rfl
theorem wi_398_128 : ri (rt_P sc fm) 398 128 (.imul) (129) := ri_of (by decide +kernel) rfl
theorem wi_398_129 : ri (rt_P sc fm) 398 129 (.iload 7) (131) := ri_of (by decide +kernel) rfl
theorem wi_398_13 : ri (rt_P sc fm) 398 13 (.aload_n 0) (14) := ri_of (by decide +kernel) rfl
theorem wi_398_131 : ri (rt_P sc fm) 398 131 (.iadd) (132) := ri_of (by decide +kernel) rfl
theorem wi_398_132 : ri (rt_P sc fm) 398 132 (.baload) (133) := ri_of (by decide +kernel) rfl
theorem wi_398_133 : ri (rt_P sc fm) 398 133 (.istore 8) (135) := ri_of (by decide +kernel) rfl
theorem wi_398_135 : ri (rt_P sc fm) 398 135 (.aload_n 0) (136) := ri_of (by decide +kernel) rfl
theorem wi_398_136 : ri (rt_P sc fm) 398 136 (.iload 8) (138) := ri_of (by decide +kernel) rfl
theorem wi_398_138 : ri (rt_P sc fm) 398 138 (.iconst 1) (139) := ri_of (by decide +kernel) rfl
theorem wi_398_139 : ri (rt_P sc fm) 398 139 (.invokevirtual 571) (142) := ri_of (by decide +kernel) rfl
theorem wi_398_14 : ri (rt_P sc fm) 398 14 (.getfield 471) (17) := ri_of (by decide +kernel) rfl
theorem wi_398_142 : ri (rt_P sc fm) 398 142 (.aload_n 0) (143) := ri_of (by decide +kernel) rfl
theorem wi_398_143 : ri (rt_P sc fm) 398 143 (.getfield 409) (146) := ri_of (by decide +kernel) rfl
theorem wi_398_146 : ri (rt_P sc fm) 398 146 (.ifCond .eq 4) (149) := ri_of (by decide +kernel) rfl
theorem wi_398_149 : ri (rt_P sc fm) 398 149 (.return_) (150) := ri_of (by decide +kernel) rfl
theorem wi_398_150 : ri (rt_P sc fm) 398 150 (.aload_n 0) (151) := ri_of (by decide +kernel) rfl
theorem wi_398_151 : ri (rt_P sc fm) 398 151 (.iload_n 1) (152) := ri_of (by decide +kernel) rfl
theorem wi_398_152 : ri (rt_P sc fm) 398 152 (.lload 5) (154) := ri_of (by decide +kernel) rfl
theorem wi_398_154 : ri (rt_P sc fm) 398 154 (.iload 8) (156) := ri_of (by decide +kernel) rfl
theorem wi_398_156 : ri (rt_P sc fm) 398 156 (.ifCond .eq 7) (159) := ri_of (by decide +kernel) rfl
theorem wi_398_159 : ri (rt_P sc fm) 398 159 (.iconst 2) (160) := ri_of (by decide +kernel) rfl
theorem wi_398_160 : ri (rt_P sc fm) 398 160 (.goto 4) (163) := ri_of (by decide +kernel) rfl
theorem wi_398_163 : ri (rt_P sc fm) 398 163 (.iconst 1) (164) := ri_of (by decide +kernel) rfl
theorem wi_398_164 : ri (rt_P sc fm) 398 164 (.aload_n 0) (165) := ri_of (by decide +kernel) rfl
theorem wi_398_165 : ri (rt_P sc fm) 398 165 (.getfield 486) (168) := ri_of (by decide +kernel) rfl
theorem wi_398_168 : ri (rt_P sc fm) 398 168 (.invokevirtual 561) (171) := ri_of (by decide +kernel) rfl
theorem wi_398_17 : ri (rt_P sc fm) 398 17 (.istore 4) (19) := ri_of (by decide +kernel) rfl
theorem wi_398_171 : ri (rt_P sc fm) 398 171 (.aload_n 0) (172) := ri_of (by decide +kernel) rfl
theorem wi_398_172 : ri (rt_P sc fm) 398 172 (.bipush 44) (174) := ri_of (by decide +kernel) rfl
theorem wi_398_174 : ri (rt_P sc fm) 398 174 (.invokevirtual 483) (177) := ri_of (by decide +kernel) rfl
theorem wi_398_177 : ri (rt_P sc fm) 398 177 (.istore_n 3) (178) := ri_of (by decide +kernel) rfl
theorem wi_398_178 : ri (rt_P sc fm) 398 178 (.goto (-176)) (181) := ri_of (by decide +kernel) rfl
theorem wi_398_181 : ri (rt_P sc fm) 398 181 (.aload_n 0) (182) := ri_of (by decide +kernel) rfl
theorem wi_398_182 : ri (rt_P sc fm) 398 182 (.bipush 41) (184) := ri_of (by decide +kernel) rfl
theorem wi_398_184 : ri (rt_P sc fm) 398 184 (.invokevirtual 521) (187) := ri_of (by decide +kernel) rfl
theorem wi_398_187 : ri (rt_P sc fm) 398 187 (.return_) (188) := ri_of (by decide +kernel) rfl
theorem wi_398_19 : ri (rt_P sc fm) 398 19 (.aload_n 0) (20) := ri_of (by decide +kernel) rfl
theorem wi_398_2 : ri (rt_P sc fm) 398 2 (.iload_n 3) (3) := ri_of (by decide +kernel) rfl
theorem wi_398_20 : ri (rt_P sc fm) 398 20 (.invokevirtual 505) (23) := ri_of (by decide +kernel) rfl
theorem wi_398_23 : ri (rt_P sc fm) 398 23 (.lstore 5) (25) := ri_of (by decide +kernel) rfl
theorem wi_398_25 : ri (rt_P sc fm) 398 25 (.aload_n 0) (26) := ri_of (by decide +kernel) rfl
theorem wi_398_26 : ri (rt_P sc fm) 398 26 (.getfield 409) (29) := ri_of (by decide +kernel) rfl
theorem wi_398_29 : ri (rt_P sc fm) 398 29 (.ifCond .eq 4) (32) := ri_of (by decide +kernel) rfl
theorem wi_398_3 : ri (rt_P sc fm) 398 3 (.ifCond .eq 178) (6) := ri_of (by decide +kernel) rfl
theorem wi_398_32 : ri (rt_P sc fm) 398 32 (.return_) (33) := ri_of (by decide +kernel) rfl
theorem wi_398_33 : ri (rt_P sc fm) 398 33 (.aload_n 0) (34) := ri_of (by decide +kernel) rfl
theorem wi_398_34 : ri (rt_P sc fm) 398 34 (.iload_n 2) (35) := ri_of (by decide +kernel) rfl
theorem wi_398_35 : ri (rt_P sc fm) 398 35 (.lload 5) (37) := ri_of (by decide +kernel) rfl
theorem wi_398_37 : ri (rt_P sc fm) 398 37 (.invokevirtual 568) (40) := ri_of (by decide +kernel) rfl
theorem wi_398_40 : ri (rt_P sc fm) 398 40 (.istore 7) (42) := ri_of (by decide +kernel) rfl
theorem wi_398_42 : ri (rt_P sc fm) 398 42 (.iload 7) (44) := ri_of (by decide +kernel) rfl
theorem wi_398_44 : ri (rt_P sc fm) 398 44 (.ifCond .ge 15) (47) := ri_of (by decide +kernel) rfl
theorem wi_398_47 : ri (rt_P sc fm) 398 47 (.aload_n 0) (48) := ri_of (by decide +kernel) rfl
theorem wi_398_48 : ri (rt_P sc fm) 398 48 (.iconst 5) (49) := ri_of (by decide +kernel) rfl
theorem wi_398_49 : ri (rt_P sc fm) 398 49 (.aload_n 0) (50) := ri_of (by decide +kernel) rfl
theorem wi_398_50 : ri (rt_P sc fm) 398 50 (.getfield 87) (53) := ri_of (by decide +kernel) rfl
theorem wi_398_53 : ri (rt_P sc fm) 398 53 (.iload 4) (55) := ri_of (by decide +kernel) rfl
theorem wi_398_55 : ri (rt_P sc fm) 398 55 (.iaload) (56) := ri_of (by decide +kernel) rfl
theorem wi_398_56 : ri (rt_P sc fm) 398 56 (.invokevirtual 432) (59) := ri_of (by decide +kernel) rfl
theorem wi_398_59 : ri (rt_P sc fm) 398 59 (.iconst 0) (60) := ri_of (by decide +kernel) rfl
theorem wi_398_6 : ri (rt_P sc fm) 398 6 (.aload_n 0) (7) := ri_of (by decide +kernel) rfl
theorem wi_398_60 : ri (rt_P sc fm) 398 60 (.istore 8) (62) := ri_of (by decide +kernel) rfl
theorem wi_398_62 : ri (rt_P sc fm) 398 62 (.iload 8) (64) := ri_of (by decide +kernel) rfl
theorem wi_398_64 : ri (rt_P sc fm) 398 64 (.aload_n 0) (65) := ri_of (by decide +kernel) rfl
theorem wi_398_65 : ri (rt_P sc fm) 398 65 (.getfield 227) (68) := ri_of (by decide +kernel) rfl
theorem wi_398_68 : ri (rt_P sc fm) 398 68 (.iload_n 1) (69) := ri_of (by decide +kernel) rfl
theorem wi_398_69 : ri (rt_P sc fm) 398 69 (.iaload) (70) := ri_of (by decide +kernel) rfl
theorem wi_398_7 : ri (rt_P sc fm) 398 7 (.getfield 409) (10) := ri_of (by decide +kernel) rfl
theorem wi_398_70 : ri (rt_P sc fm) 398 70 (.if_icmp .ge 38) (73) := ri_of (by decide +kernel) rfl
theorem wi_398_73 : ri (rt_P sc fm) 398 73 (.aload_n 0) (74) := ri_of (by decide +kernel) rfl
theorem wi_398_74 : ri (rt_P sc fm) 398 74 (.getfield 231) (77) := ri_of (by decide +kernel) rfl
theorem wi_398_77 : ri (rt_P sc fm) 398 77 (.iload_n 1) (78) := ri_of (by decide +kernel) rfl
theorem wi_398_78 : ri (rt_P sc fm) 398 78 (.iconst 4) (79) := ri_of (by decide +kernel) rfl
theorem wi_398_79 : ri (rt_P sc fm) 398 79 (.imul) (80) := ri_of (by decide +kernel) rfl
theorem wi_398_80 : ri (rt_P sc fm) 398 80 (.iload 8) (82) := ri_of (by decide +kernel) rfl
theorem wi_398_82 : ri (rt_P sc fm) 398 82 (.iadd) (83) := ri_of (by decide +kernel) rfl
theorem wi_398_83 : ri (rt_P sc fm) 398 83 (.laload) (84) := ri_of (by decide +kernel) rfl
theorem wi_398_84 : ri (rt_P sc fm) 398 84 (.lload 5) (86) := ri_of (by decide +kernel) rfl
theorem wi_398_86 : ri (rt_P sc fm) 398 86 (.lcmp) (87) := ri_of (by decide +kernel) rfl
theorem wi_398_87 : ri (rt_P sc fm) 398 87 (.ifCond .ne 15) (90) := ri_of (by decide +kernel) rfl
theorem wi_398_90 : ri (rt_P sc fm) 398 90 (.aload_n 0) (91) := ri_of (by decide +kernel) rfl
theorem wi_398_91 : ri (rt_P sc fm) 398 91 (.iconst 3) (92) := ri_of (by decide +kernel) rfl
theorem wi_398_92 : ri (rt_P sc fm) 398 92 (.aload_n 0) (93) := ri_of (by decide +kernel) rfl
theorem wi_398_93 : ri (rt_P sc fm) 398 93 (.getfield 87) (96) := ri_of (by decide +kernel) rfl
theorem wi_398_96 : ri (rt_P sc fm) 398 96 (.iload 4) (98) := ri_of (by decide +kernel) rfl
theorem wi_398_98 : ri (rt_P sc fm) 398 98 (.iaload) (99) := ri_of (by decide +kernel) rfl
theorem wi_398_99 : ri (rt_P sc fm) 398 99 (.invokevirtual 432) (102) := ri_of (by decide +kernel) rfl
theorem wm_394 : rx_ml (rt_P sc fm) 394 = 8 := (by decide +kernel : rt_ml 394 = 8)
theorem wr_398 : rx_rt (rt_P sc fm) 398 = none := (by decide +kernel : rt_rt 398 = none)
/-- MarkHouseModel.readPairs(II)V -/
def d_398 (n : Nat) (a1 : Int32) (a2 : Int32) (c : cS) : Option (cS) :=
  Option.bind (whl (R := (cS) ⊕ (cS) ⊕ (cS) ⊕ (cS)) (fun s2 : Int32 × cS =>
    if s2.1 = 0 then
      some (.inr (.inl s2.2))
    else
      if (s2.2.1 174 13) = 0 then
        lt ((s2.2.1 174 67) : Int32) (fun v4 =>
        Option.bind (d_381 n s2.2) (fun r6 =>
        if (r6.2.1 174 13) = 0 then
          Option.bind (d_378 n a2 r6.1 r6.2) (fun v8 =>
          jn (fun p10 : cS =>
            Option.bind (whl (R := (cS)) (fun s12 : Int32 × cS =>
              if ib a1 24380 then
              if (s12.2.1 225 (ix a1)) ≤ s12.1 then
                some (.inr s12.2)
              else
                if ib ((a1 * 4) + s12.1) 97520 then
                jn (fun p15 : cS =>
                  lt (s12.1 + 1 : Int32) (fun v17 =>
                  some (.inl (v17, p15))))
                (fun j102 =>
                if (lg_cmp (s12.2.2 226 (ix ((a1 * 4) + s12.1))) r6.1) = 0 then
                  if ib v4 4001 then
                  Option.bind (d_97 n 3 (s12.2.1 179 (ix v4)) s12.2) (fun r20 =>
                  j102 r20)
                  else none
                else
                  j102 s12.2)
                else none
              else none) n (0, p10))
            (fun x21 : cS =>
              Option.bind (d_380 n 61 x21) (fun r22 =>
              if (r22.1 174 13) = 0 then
                if ib ((4 * a2) + v8) 48 then
                lt ((r22.1 192 (ix ((4 * a2) + v8))) : Int32) (fun v25 =>
                Option.bind (d_382 n v25 1 r22) (fun r27 =>
                if (r27.1 174 13) = 0 then
                  jn (fun p28 : Int32 =>
                    Option.bind (d_394 n a1 r6.1 p28 (r27.2 174 68) r27) (fun r29 =>
                    Option.bind (d_379 n 44 r29) (fun r30 =>
                    some (.inl (r30.1, r30.2)))))
                  (fun j164 =>
                  if v25 = 0 then
                    j164 1
                  else
                    j164 2)
                else
                  some (.inr (.inr (.inr (.inr r27))))))
                else none
              else
                some (.inr (.inr (.inr (.inl r22)))))))
          (fun j59 =>
          if 0 ≤ v8 then
            j59 r6.2
          else
            if ib v4 4001 then
            Option.bind (d_97 n 5 (r6.2.1 179 (ix v4)) r6.2) (fun r33 =>
            j59 r33)
            else none))
        else
          some (.inr (.inr (.inl r6.2)))))
      else
        some (.inr (.inl s2.2))) n (1, c))
  (Sum.elim (fun x34 : cS =>
    Option.bind (d_380 n 41 x34) (fun r35 =>
    some r35))
  (Sum.elim (fun x36 : cS =>
    some x36)
  (Sum.elim (fun x37 : cS =>
    some x37)
  (fun x38 : cS =>
    some x38))))
set_option maxRecDepth 100000 in
set_option maxHeartbeats 4000000 in
theorem sp_398 {F Lo n : Nat} {a1 : Int32} {a2 : Int32} {c y : cS} {w : cW} {K : cS → Prop} {Q : ((Option Value) ⊕ String) → List va_E → Prop} (hw : rOK fm w) (hF : 3 ≤ F) (hLo : 68 ≤ Lo)  (h : wp (d_398 n a1 a2 c) K) (hQ : ∀ r, K r → Q (.inl none) (hq false r y w)) : rs (rt_P sc fm) 398 F Lo 0 [(0, .ref 174), (1, .int a1), (2, .int a2)] [] (hq false c y w) Q := by
  unfold d_398 at h
  obtain ⟨lv, elv⟩ : ∃ lv : rx_L, lv = [(0, .ref 174), (1, .int a1), (2, .int a2)] := ⟨_, rfl⟩
  rw [← elv]
  have l0 : rx_ld lv 0 = some (.ref 174) := by rw [elv]; rfl
  have l1 : rx_ld lv 1 = some (.int a1) := by rw [elv]; rfl
  have l2 : rx_ld lv 2 = some (.int a2) := by rw [elv]; rfl
  refine rs_pure wi_398_0 rfl ?_
  refine rs_topi (v := 1) (by decide) ?_
  refine dl_istn wi_398_1 rfl (fun lv l3 t1 => ?_)
  have l0 := t1 _ _ (by decide) (Or.inl rfl) l0
  have l1 := t1 _ _ (by decide) (Or.inl rfl) l1
  have l2 := t1 _ _ (by decide) (Or.inl rfl) l2
  refine whl_ex (A := fun s2 : Int32 × cS => ∀ lv, rx_ld lv 0 = some (.ref 174) → rx_ld lv 1 = some (.int a1) → rx_ld lv 2 = some (.int a2) → rx_ld lv 3 = some (.int s2.1) → rs (rt_P sc fm) 398 F Lo 2 lv [] (hq false s2.2 y w) Q) (B := (Sum.elim (fun x34 : cS => ∀ lv, rx_ld lv 0 = some (.ref 174) → rs (rt_P sc fm) 398 F Lo 181 lv [] (hq false x34 y w) Q) (Sum.elim (fun x36 : cS => ∀ lv, rs (rt_P sc fm) 398 F Lo 32 lv [] (hq false x36 y w) Q) (Sum.elim (fun x37 : cS => ∀ lv, rs (rt_P sc fm) 398 F Lo 121 lv [] (hq false x37 y w) Q) (fun x38 : cS => ∀ lv, rs (rt_P sc fm) 398 F Lo 149 lv [] (hq false x38 y w) Q))))) ?_ ?_ _ _ (wp_bind h) _ l0 l1 l2 l3
  · intro s2 h lv l0 l1 l2 l3
    refine rs_ildn wi_398_2 l3 ?_
    refine rs_ifeq (tg := 181) wi_398_3 ⟨by decide, by decide⟩ (fun q => ?_) (fun q => ?_)
    ·
      have h := wp_pos h q
      exact h _ l0
    ·
      have h := wp_neg h q
      refine rs_aldn wi_398_6 l0 ?_
      refine dq_gi wi_398_7 wf_398_409 tf_174_13 ?_
      refine rs_ifne (tg := 181) wi_398_10 ⟨by decide, by decide⟩ (fun q => ?_) (fun q => ?_)
      ·
        have h := wp_neg h q
        exact h _ l0
      ·
        have h := wp_pos h q
        refine rs_aldn wi_398_13 l0 ?_
        refine dq_gi wi_398_14 wf_398_471 tf_174_67 ?_
        obtain ⟨v4, e5, h⟩ := wp_lt h
        refine rs_topi e5 ?_
        refine dl_ist wi_398_17 rfl (fun lv l4 t3 => ?_)
        have l0 := t3 _ _ (by decide) (Or.inl rfl) l0
        have l1 := t3 _ _ (by decide) (Or.inl rfl) l1
        have l2 := t3 _ _ (by decide) (Or.inl rfl) l2
        refine rs_aldn wi_398_19 l0 ?_
        refine rs_V wi_398_20 wc_398_505 rfl (dq_isa tf_174_0 wa_15_381) (Nat.le_trans (by decide) hF) (ml_le wm_381 (Nat.le_trans (by decide) hLo)) rfl (sp_381 hw (Nat.le_trans (by decide : 2 ≤ 3 - 1) (Nat.sub_le_sub_right hF 1)) (ml_sub wm_381 (Nat.le_trans (by decide : 42 ≤ 68 - 20) (Nat.sub_le_sub_right hLo 20))) (wp_bind h) (fun r6 h => rs_back1 ?_))
        refine dl_lst wi_398_23 rfl (fun lv l5 t7 => ?_)
        have l0 := t7 _ _ (by decide) (by decide) (Or.inl rfl) l0
        have l1 := t7 _ _ (by decide) (by decide) (Or.inl rfl) l1
        have l2 := t7 _ _ (by decide) (by decide) (Or.inl rfl) l2
        have l4 := t7 _ _ (by decide) (by decide) (Or.inl rfl) l4
        refine rs_aldn wi_398_25 l0 ?_
        refine dq_gi wi_398_26 wf_398_409 tf_174_13 ?_
        refine rs_ifeq (tg := 33) wi_398_29 ⟨by decide, by decide⟩ (fun q => ?_) (fun q => ?_)
        ·
          have h := wp_pos h q
          refine rs_aldn wi_398_33 l0 ?_
          refine rs_ildn wi_398_34 l2 ?_
          refine rs_lld wi_398_35 l5 ?_
          refine rs_V wi_398_37 wc_398_568 rfl (dq_isa tf_174_0 wa_15_378) (Nat.le_trans (by decide) hF) (ml_le wm_378 (Nat.le_trans (by decide) hLo)) rfl (sp_378 hw (Nat.le_trans (by decide : 0 ≤ 3 - 1) (Nat.sub_le_sub_right hF 1)) (ml_sub wm_378 (Nat.le_trans (by decide : 0 ≤ 68 - 24) (Nat.sub_le_sub_right hLo 24))) (wp_bind h) (fun v8 h => rs_back1 ?_))
          refine dl_ist wi_398_40 rfl (fun lv l7 t9 => ?_)
          have l0 := t9 _ _ (by decide) (Or.inl rfl) l0
          have l1 := t9 _ _ (by decide) (Or.inl rfl) l1
          have l2 := t9 _ _ (by decide) (Or.inl rfl) l2
          have l4 := t9 _ _ (by decide) (Or.inl rfl) l4
          have l5 := t9 _ _ (by decide) (Or.inr (by decide)) l5
          refine rs_ild wi_398_42 l7 ?_
          refine wp_jn (B := fun p10 : cS => ∀ lv, rx_ld lv 0 = some (.ref 174) → rx_ld lv 1 = some (.int a1) → rx_ld lv 2 = some (.int a2) → rx_ld lv 4 = some (.int v4) → rx_ld lv 5 = some (.long r6.1) → rx_ld lv 7 = some (.int v8) → rs (rt_P sc fm) 398 F Lo 59 lv [] (hq false p10 y w) Q) h (fun p10 h lv l0 l1 l2 l4 l5 l7 => ?_) (fun j59 hj59 h => ?_)
          ·
            refine rs_pure wi_398_59 rfl ?_
            refine rs_topi (v := 0) (by decide) ?_
            refine dl_ist wi_398_60 rfl (fun lv l8 t11 => ?_)
            have l0 := t11 _ _ (by decide) (Or.inl rfl) l0
            have l1 := t11 _ _ (by decide) (Or.inl rfl) l1
            have l2 := t11 _ _ (by decide) (Or.inl rfl) l2
            have l4 := t11 _ _ (by decide) (Or.inl rfl) l4
            have l5 := t11 _ _ (by decide) (Or.inr (by decide)) l5
            have l7 := t11 _ _ (by decide) (Or.inl rfl) l7
            refine whl_ex (A := fun s12 : Int32 × cS => ∀ lv, rx_ld lv 0 = some (.ref 174) → rx_ld lv 1 = some (.int a1) → rx_ld lv 2 = some (.int a2) → rx_ld lv 4 = some (.int v4) → rx_ld lv 5 = some (.long r6.1) → rx_ld lv 7 = some (.int v8) → rx_ld lv 8 = some (.int s12.1) → rs (rt_P sc fm) 398 F Lo 62 lv [] (hq false s12.2 y w) Q) (B := (fun x21 : cS => ∀ lv, rx_ld lv 0 = some (.ref 174) → rx_ld lv 1 = some (.int a1) → rx_ld lv 2 = some (.int a2) → rx_ld lv 5 = some (.long r6.1) → rx_ld lv 7 = some (.int v8) → rs (rt_P sc fm) 398 F Lo 108 lv [] (hq false x21 y w) Q)) ?_ ?_ _ _ (wp_bind h) _ l0 l1 l2 l4 l5 l7 l8
            · intro s12 h lv l0 l1 l2 l4 l5 l7 l8
              refine rs_ild wi_398_62 l8 ?_
              refine rs_aldn wi_398_64 l0 ?_
              refine dq_gr wi_398_65 wf_398_227 tf_174_63 ?_
              refine rs_ildn wi_398_68 l1 ?_
              obtain ⟨g13, h⟩ := wp_gd h
              refine dq_iald wi_398_69 t_225 g13 ?_
              refine rs_icge (tg := 108) wi_398_70 ⟨by decide, by decide⟩ (fun q => ?_) (fun q => ?_)
              ·
                have h := wp_pos h q
                exact h _ l0 l1 l2 l5 l7
              ·
                have h := wp_neg h q
                refine rs_aldn wi_398_73 l0 ?_
                refine dq_gr wi_398_74 wf_398_231 tf_174_64 ?_
                refine rs_ildn wi_398_77 l1 ?_
                refine rs_pure wi_398_78 rfl ?_
                refine rs_topi (v := 4) (by decide) ?_
                refine rs_pure wi_398_79 rfl ?_
                refine rs_ild wi_398_80 l8 ?_
                refine rs_pure wi_398_82 rfl ?_
                obtain ⟨g14, h⟩ := wp_gd h
                refine dq_lald wi_398_83 t_226 g14 ?_
                refine rs_lld wi_398_84 l5 ?_
                refine rs_pure wi_398_86 rfl ?_
                refine wp_jn (B := fun p15 : cS => ∀ lv, rx_ld lv 0 = some (.ref 174) → rx_ld lv 1 = some (.int a1) → rx_ld lv 2 = some (.int a2) → rx_ld lv 4 = some (.int v4) → rx_ld lv 5 = some (.long r6.1) → rx_ld lv 7 = some (.int v8) → rx_ld lv 8 = some (.int s12.1) → rs (rt_P sc fm) 398 F Lo 102 lv [] (hq false p15 y w) Q) h (fun p15 h lv l0 l1 l2 l4 l5 l7 l8 => ?_) (fun j102 hj102 h => ?_)
                ·
                  obtain ⟨v17, e18, h⟩ := wp_lt h
                  refine dl_inc wi_398_102 l8 rfl e18 (fun lv l8 t16 => ?_)
                  have l0 := t16 _ _ (by decide) (Or.inl rfl) l0
                  have l1 := t16 _ _ (by decide) (Or.inl rfl) l1
                  have l2 := t16 _ _ (by decide) (Or.inl rfl) l2
                  have l4 := t16 _ _ (by decide) (Or.inl rfl) l4
                  have l5 := t16 _ _ (by decide) (Or.inr (by decide)) l5
                  have l7 := t16 _ _ (by decide) (Or.inl rfl) l7
                  refine rs_goto (tg := 62) wi_398_105 ⟨by decide, by decide⟩ ?_
                  exact h _ l0 l1 l2 l4 l5 l7 l8
                refine rs_ifne (tg := 102) wi_398_87 ⟨by decide, by decide⟩ (fun q => ?_) (fun q => ?_)
                ·
                  have h := wp_neg h q
                  exact hj102 _ h _ l0 l1 l2 l4 l5 l7 l8
                ·
                  have h := wp_pos h q
                  refine rs_aldn wi_398_90 l0 ?_
                  refine rs_pure wi_398_91 rfl ?_
                  refine rs_topi (v := 3) (by decide) ?_
                  refine rs_aldn wi_398_92 l0 ?_
                  refine dq_gr wi_398_93 wf_398_87 tf_174_9 ?_
                  refine rs_ild wi_398_96 l4 ?_
                  obtain ⟨g19, h⟩ := wp_gd h
                  refine dq_iald wi_398_98 t_179 g19 ?_
                  refine rs_V wi_398_99 wc_398_432 rfl (dq_isa tf_174_0 wa_15_97) (Nat.le_trans (by decide) hF) (ml_le wm_97 (Nat.le_trans (by decide) hLo)) rfl (sp_97 hw (Nat.le_trans (by decide : 0 ≤ 3 - 1) (Nat.sub_le_sub_right hF 1)) (ml_sub wm_97 (Nat.le_trans (by decide : 0 ≤ 68 - 22) (Nat.sub_le_sub_right hLo 22))) (wp_bind h) (fun r20 h => rs_back0 ?_))
                  exact hj102 _ h _ l0 l1 l2 l4 l5 l7 l8
            ·
              intro x21 h lv l0 l1 l2 l5 l7
              refine rs_aldn wi_398_108 l0 ?_
              refine rs_pure wi_398_109 rfl ?_
              refine rs_topi (v := 61) (by decide) ?_
              refine rs_V wi_398_111 wc_398_521 rfl (dq_isa tf_174_0 wa_15_380) (Nat.le_trans (by decide) hF) (ml_le wm_380 (Nat.le_trans (by decide) hLo)) rfl (sp_380 hw (Nat.le_trans (by decide : 2 ≤ 3 - 1) (Nat.sub_le_sub_right hF 1)) (ml_sub wm_380 (Nat.le_trans (by decide : 42 ≤ 68 - 21) (Nat.sub_le_sub_right hLo 21))) (wp_bind h) (fun r22 h => rs_back0 ?_))
              refine rs_aldn wi_398_114 l0 ?_
              refine dq_gi wi_398_115 wf_398_409 tf_174_13 ?_
              refine rs_ifeq (tg := 122) wi_398_118 ⟨by decide, by decide⟩ (fun q => ?_) (fun q => ?_)
              ·
                have h := wp_pos h q
                refine rs_aldn wi_398_122 l0 ?_
                refine dq_gr wi_398_123 wf_398_128 tf_174_28 ?_
                refine rs_pure wi_398_126 rfl ?_
                refine rs_topi (v := 4) (by decide) ?_
                refine rs_ildn wi_398_127 l2 ?_
                refine rs_pure wi_398_128 rfl ?_
                refine rs_ild wi_398_129 l7 ?_
                refine rs_pure wi_398_131 rfl ?_
                obtain ⟨g23, h⟩ := wp_gd h
                refine dq_zald wi_398_132 t_192 g23 ?_
                obtain ⟨v25, e26, h⟩ := wp_lt h
                refine rs_topi e26 ?_
                refine dl_ist wi_398_133 rfl (fun lv l8 t24 => ?_)
                have l0 := t24 _ _ (by decide) (Or.inl rfl) l0
                have l1 := t24 _ _ (by decide) (Or.inl rfl) l1
                have l2 := t24 _ _ (by decide) (Or.inl rfl) l2
                have l5 := t24 _ _ (by decide) (Or.inr (by decide)) l5
                refine rs_aldn wi_398_135 l0 ?_
                refine rs_ild wi_398_136 l8 ?_
                refine rs_pure wi_398_138 rfl ?_
                refine rs_topi (v := 1) (by decide) ?_
                refine rs_V wi_398_139 wc_398_571 rfl (dq_isa tf_174_0 wa_15_382) (Nat.le_trans (by decide) hF) (ml_le wm_382 (Nat.le_trans (by decide) hLo)) rfl (sp_382 hw (Nat.le_trans (by decide : 2 ≤ 3 - 1) (Nat.sub_le_sub_right hF 1)) (ml_sub wm_382 (Nat.le_trans (by decide : 42 ≤ 68 - 26) (Nat.sub_le_sub_right hLo 26))) (wp_bind h) (fun r27 h => rs_back0 ?_))
                refine rs_aldn wi_398_142 l0 ?_
                refine dq_gi wi_398_143 wf_398_409 tf_174_13 ?_
                refine rs_ifeq (tg := 150) wi_398_146 ⟨by decide, by decide⟩ (fun q => ?_) (fun q => ?_)
                ·
                  have h := wp_pos h q
                  refine rs_aldn wi_398_150 l0 ?_
                  refine rs_ildn wi_398_151 l1 ?_
                  refine rs_lld wi_398_152 l5 ?_
                  refine rs_ild wi_398_154 l8 ?_
                  refine wp_jn (B := fun p28 : Int32 => ∀ lv, rx_ld lv 0 = some (.ref 174) → rx_ld lv 1 = some (.int a1) → rx_ld lv 2 = some (.int a2) → rs (rt_P sc fm) 398 F Lo 164 lv [.int p28, .long r6.1, .int a1, .ref 174] (hq false r27 y w) Q) h (fun p28 h lv l0 l1 l2 => ?_) (fun j164 hj164 h => ?_)
                  ·
                    refine rs_aldn wi_398_164 l0 ?_
                    refine dq_gl wi_398_165 wf_398_486 tf_174_68 ?_
                    refine rs_V wi_398_168 wc_398_561 rfl (dq_isa tf_174_0 wa_15_394) (Nat.le_trans (by decide) hF) (ml_le wm_394 (Nat.le_trans (by decide) hLo)) rfl (sp_394 hw (Nat.le_trans (by decide : 0 ≤ 3 - 1) (Nat.sub_le_sub_right hF 1)) (ml_sub wm_394 (Nat.le_trans (by decide : 0 ≤ 68 - 27) (Nat.sub_le_sub_right hLo 27))) (wp_bind h) (fun r29 h => rs_back0 ?_))
                    refine rs_aldn wi_398_171 l0 ?_
                    refine rs_pure wi_398_172 rfl ?_
                    refine rs_topi (v := 44) (by decide) ?_
                    refine rs_V wi_398_174 wc_398_483 rfl (dq_isa tf_174_0 wa_15_379) (Nat.le_trans (by decide) hF) (ml_le wm_379 (Nat.le_trans (by decide) hLo)) rfl (sp_379 hw (Nat.le_trans (by decide : 1 ≤ 3 - 1) (Nat.sub_le_sub_right hF 1)) (ml_sub wm_379 (Nat.le_trans (by decide : 21 ≤ 68 - 21) (Nat.sub_le_sub_right hLo 21))) (wp_bind h) (fun r30 h => rs_back1 ?_))
                    refine dl_istn wi_398_177 rfl (fun lv l3 t31 => ?_)
                    have l0 := t31 _ _ (by decide) (Or.inl rfl) l0
                    have l1 := t31 _ _ (by decide) (Or.inl rfl) l1
                    have l2 := t31 _ _ (by decide) (Or.inl rfl) l2
                    refine rs_goto (tg := 2) wi_398_178 ⟨by decide, by decide⟩ ?_
                    exact h _ l0 l1 l2 l3
                  refine rs_ifeq (tg := 163) wi_398_156 ⟨by decide, by decide⟩ (fun q => ?_) (fun q => ?_)
                  ·
                    have h := wp_pos h q
                    refine rs_pure wi_398_163 rfl ?_
                    refine rs_topi (v := 1) (by decide) ?_
                    exact hj164 _ h _ l0 l1 l2
                  ·
                    have h := wp_neg h q
                    refine rs_pure wi_398_159 rfl ?_
                    refine rs_topi (v := 2) (by decide) ?_
                    refine rs_goto (tg := 164) wi_398_160 ⟨by decide, by decide⟩ ?_
                    exact hj164 _ h _ l0 l1 l2
                ·
                  have h := wp_neg h q
                  exact h _
              ·
                have h := wp_neg h q
                exact h _
          refine rs_ifge (tg := 59) wi_398_44 ⟨by decide, by decide⟩ (fun q => ?_) (fun q => ?_)
          ·
            have h := wp_pos h q
            exact hj59 _ h _ l0 l1 l2 l4 l5 l7
          ·
            have h := wp_neg h q
            refine rs_aldn wi_398_47 l0 ?_
            refine rs_pure wi_398_48 rfl ?_
            refine rs_topi (v := 5) (by decide) ?_
            refine rs_aldn wi_398_49 l0 ?_
            refine dq_gr wi_398_50 wf_398_87 tf_174_9 ?_
            refine rs_ild wi_398_53 l4 ?_
            obtain ⟨g32, h⟩ := wp_gd h
            refine dq_iald wi_398_55 t_179 g32 ?_
            refine rs_V wi_398_56 wc_398_432 rfl (dq_isa tf_174_0 wa_15_97) (Nat.le_trans (by decide) hF) (ml_le wm_97 (Nat.le_trans (by decide) hLo)) rfl (sp_97 hw (Nat.le_trans (by decide : 0 ≤ 3 - 1) (Nat.sub_le_sub_right hF 1)) (ml_sub wm_97 (Nat.le_trans (by decide : 0 ≤ 68 - 22) (Nat.sub_le_sub_right hLo 22))) (wp_bind h) (fun r33 h => rs_back0 ?_))
            exact hj59 _ h _ l0 l1 l2 l4 l5 l7
        ·
          have h := wp_neg h q
          exact h _
  ·
    refine sum_all ?_ ?_
    ·
      intro x34 h lv l0
      have h := wp_inl h
      refine rs_aldn wi_398_181 l0 ?_
      refine rs_pure wi_398_182 rfl ?_
      refine rs_topi (v := 41) (by decide) ?_
      refine rs_V wi_398_184 wc_398_521 rfl (dq_isa tf_174_0 wa_15_380) (Nat.le_trans (by decide) hF) (ml_le wm_380 (Nat.le_trans (by decide) hLo)) rfl (sp_380 hw (Nat.le_trans (by decide : 2 ≤ 3 - 1) (Nat.sub_le_sub_right hF 1)) (ml_sub wm_380 (Nat.le_trans (by decide : 42 ≤ 68 - 21) (Nat.sub_le_sub_right hLo 21))) (wp_bind h) (fun r35 h => rs_back0 ?_))
      exact rs_vret wi_398_187 wr_398 (hQ r35 h)
    refine sum_all ?_ ?_
    ·
      intro x36 h lv
      have h := wp_inr h
      have h := wp_inl h
      exact rs_vret wi_398_32 wr_398 (hQ x36 h)
    refine sum_all ?_ ?_
    ·
      intro x37 h lv
      have h := wp_inr h
      have h := wp_inr h
      have h := wp_inl h
      exact rs_vret wi_398_121 wr_398 (hQ x37 h)
    ·
      intro x38 h lv
      have h := wp_inr h
      have h := wp_inr h
      have h := wp_inr h
      exact rs_vret wi_398_149 wr_398 (hQ x38 h)
theorem t_195 : ta false 195 0 12 := ⟨rfl, by decide, by decide⟩
theorem t_197 : ta false 197 3 12 := ⟨rfl, by decide, by decide⟩
theorem tf_174_31 : fo false 174 15 31 (.ref 195) := ⟨_, rfl, rfl, by decide, by decide⟩
theorem tf_174_33 : fo false 174 15 33 (.ref 197) := ⟨_, rfl, rfl, by decide, by decide⟩
theorem wa_15_393 : rz_cn 15 (rx_yn (rt_P sc fm) 393).cls = true := (by decide +kernel : rz_cn 15 (rt_yn 393).cls = true)
theorem wa_15_395 : rz_cn 15 (rx_yn (rt_P sc fm) 395).cls = true := (by decide +kernel : rz_cn 15 (rt_yn 395).cls = true)
theorem wa_15_398 : rz_cn 15 (rx_yn (rt_P sc fm) 398).cls = true := (by decide +kernel : rz_cn 15 (rt_yn 398).cls = true)
theorem wc_397_432 : rx_ct (rt_P sc fm) 397 432 = some (0, 97, 2) := (by decide +kernel : rt_ct 397 432 = some (0, 97, 2))
theorem wc_397_459 : rx_ct (rt_P sc fm) 397 459 = some (0, 372, 1) := (by decide +kernel : rt_ct 397 459 = some (0, 372, 1))
theorem wc_397_462 : rx_ct (rt_P sc fm) 397 462 = some (0, 373, 1) := (by decide +kernel : rt_ct 397 462 = some (0, 373, 1))
theorem wc_397_474 : rx_ct (rt_P sc fm) 397 474 = some (0, 100, 1) := (by decide +kernel : rt_ct 397 474 = some (0, 100, 1))
theorem wc_397_480 : rx_ct (rt_P sc fm) 397 480 = some (0, 103, 0) := (by decide +kernel : rt_ct 397 480 = some (0, 103, 0))
theorem wc_397_483 : rx_ct (rt_P sc fm) 397 483 = some (0, 379, 1) := (by decide +kernel : rt_ct 397 483 = some (0, 379, 1))
theorem wc_397_505 : rx_ct (rt_P sc fm) 397 505 = some (0, 381, 0) := (by decide +kernel : rt_ct 397 505 = some (0, 381, 0))
theorem wc_397_513 : rx_ct (rt_P sc fm) 397 513 = some (0, 377, 2) := (by decide +kernel : rt_ct 397 513 = some (0, 377, 2))
theorem wc_397_521 : rx_ct (rt_P sc fm) 397 521 = some (0, 380, 1) := (by decide +kernel : rt_ct 397 521 = some (0, 380, 1))
theorem wc_397_543 : rx_ct (rt_P sc fm) 397 543 = some (0, 392, 2) := (by decide +kernel : rt_ct 397 543 = some (0, 392, 2))
theorem wc_397_551 : rx_ct (rt_P sc fm) 397 551 = some (0, 395, 3) := (by decide +kernel : rt_ct 397 551 = some (0, 395, 3))
theorem wc_397_555 : rx_ct (rt_P sc fm) 397 555 = some (0, 393, 3) := (by decide +kernel : rt_ct 397 555 = some (0, 393, 3))
theorem wc_397_561 : rx_ct (rt_P sc fm) 397 561 = some (0, 394, 4) := (by decide +kernel : rt_ct 397 561 = some (0, 394, 4))
theorem wc_397_565 : rx_ct (rt_P sc fm) 397 565 = some (0, 398, 2) := (by decide +kernel : rt_ct 397 565 = some (0, 398, 2))
theorem wf_397_122 : rx_ft (rt_P sc fm) 397 122 = some (15, 26) := (by decide +kernel : rt_ft 397 122 = some (15, 26))
theorem wf_397_125 : rx_ft (rt_P sc fm) 397 125 = some (15, 27) := (by decide +kernel : rt_ft 397 125 = some (15, 27))
theorem wf_397_131 : rx_ft (rt_P sc fm) 397 131 = some (15, 29) := (by decide +kernel : rt_ft 397 131 = some (15, 29))
theorem wf_397_137 : rx_ft (rt_P sc fm) 397 137 = some (15, 31) := (by decide +kernel : rt_ft 397 137 = some (15, 31))
theorem wf_397_143 : rx_ft (rt_P sc fm) 397 143 = some (15, 33) := (by decide +kernel : rt_ft 397 143 = some (15, 33))
theorem wf_397_218 : rx_ft (rt_P sc fm) 397 218 = some (15, 60) := (by decide +kernel : rt_ft 397 218 = some (15, 60))
theorem wf_397_227 : rx_ft (rt_P sc fm) 397 227 = some (15, 63) := (by decide +kernel : rt_ft 397 227 = some (15, 63))
theorem wf_397_231 : rx_ft (rt_P sc fm) 397 231 = some (15, 64) := (by decide +kernel : rt_ft 397 231 = some (15, 64))
theorem wf_397_409 : rx_ft (rt_P sc fm) 397 409 = some (15, 13) := (by decide +kernel : rt_ft 397 409 = some (15, 13))
theorem wf_397_471 : rx_ft (rt_P sc fm) 397 471 = some (15, 67) := (by decide +kernel : rt_ft 397 471 = some (15, 67))
theorem wf_397_87 : rx_ft (rt_P sc fm) 397 87 = some (15, 9) := (by decide +kernel : rt_ft 397 87 = some (15, 9))
theorem wi_397_0 : ri (rt_P sc fm) 397 0 (.iconst 0) (1) := ri_of (by decide +kernel) rfl
theorem wi_397_1 : ri (rt_P sc fm) 397 1 (.istore 4) (3) := ri_of (by decide +kernel) rfl
theorem wi_397_100 : ri (rt_P sc fm) 397 100 (.iload 8) (102) := ri_of (by decide +kernel) rfl
theorem wi_397_102 : ri (rt_P sc fm) 397 102 (.ifCond .ge 13) (105) := ri_of (by decide +kernel) rfl
theorem wi_397_105 : ri (rt_P sc fm) 397 105 (.aload_n 0) (106) := ri_of (by decide +kernel) rfl
theorem wi_397_106 : ri (rt_P sc fm) 397 106 (.getfield 143) (109) := ri_of (by decide +kernel) rfl
theorem wi_397_109 : ri (rt_P sc fm) 397 109 (.iload 9) (111) := ri_of (by decide +kernel) rfl
theorem wi_397_111 : ri (rt_P sc fm) 397 111 (.baload) (112) := ri_of (by decide +kernel) rfl
theorem wi_397_112 : ri (rt_P sc fm) 397 112 (.ifCond .ne 31) (115) := ri_of (by decide +kernel) rfl
theorem wi_397_115 : ri (rt_P sc fm) 397 115 (.aload_n 0) (116) := ri_of (by decide +kernel) rfl
theorem wi_397_116 : ri (rt_P sc fm) 397 116 (.iload_n 1) (117) := ri_of (by decide +kernel) rfl
theorem wi_397_117 : ri (rt_P sc fm) 397 117 (.aload_n 0) (118) := ri_of (by decide +kernel) rfl
theorem wi_397_118 : ri (rt_P sc fm) 397 118 (.getfield 218) (121) := ri_of (by decide +kernel) rfl
theorem wi_397_12 : ri (rt_P sc fm) 397 12 (.iload_n 3) (13) := ri_of (by decide +kernel) rfl
theorem wi_397_121 : ri (rt_P sc fm) 397 121 (.iload_n 1) (122) := ri_of (by decide +kernel) rfl
theorem wi_397_122 : ri (rt_P sc fm) 397 122 (.iaload) (123) := ri_of (by decide +kernel) rfl
theorem wi_397_123 : ri (rt_P sc fm) 397 123 (.lload 6) (125) := ri_of (by decide +kernel) rfl
theorem wi_397_125 : ri (rt_P sc fm) 397 125 (.invokevirtual 551) (128) := ri_of (by decide +kernel) rfl
theorem wi_397_128 : ri (rt_P sc fm) 397 128 (.ifCond .eq 15) (131) := ri_of (by decide +kernel) rfl
theorem wi_397_13 : ri (rt_P sc fm) 397 13 (.ifCond .ne 8) (16) := ri_of (by decide +kernel) rfl
theorem wi_397_131 : ri (rt_P sc fm) 397 131 (.aload_n 0) (132) := ri_of (by decide +kernel) rfl
theorem wi_397_132 : ri (rt_P sc fm) 397 132 (.iconst 3) (133) := ri_of (by decide +kernel) rfl
theorem wi_397_133 : ri (rt_P sc fm) 397 133 (.aload_n 0) (134) := ri_of (by decide +kernel) rfl
theorem wi_397_134 : ri (rt_P sc fm) 397 134 (.getfield 87) (137) := ri_of (by decide +kernel) rfl
theorem wi_397_137 : ri (rt_P sc fm) 397 137 (.iload 5) (139) := ri_of (by decide +kernel) rfl
theorem wi_397_139 : ri (rt_P sc fm) 397 139 (.iaload) (140) := ri_of (by decide +kernel) rfl
theorem wi_397_140 : ri (rt_P sc fm) 397 140 (.invokevirtual 432) (143) := ri_of (by decide +kernel) rfl
theorem wi_397_143 : ri (rt_P sc fm) 397 143 (.iload 8) (145) := ri_of (by decide +kernel) rfl
theorem wi_397_145 : ri (rt_P sc fm) 397 145 (.ifCond .lt 16) (148) := ri_of (by decide +kernel) rfl
theorem wi_397_148 : ri (rt_P sc fm) 397 148 (.iload_n 2) (149) := ri_of (by decide +kernel) rfl
theorem wi_397_149 : ri (rt_P sc fm) 397 149 (.iconst 1) (150) := ri_of (by decide +kernel) rfl
theorem wi_397_150 : ri (rt_P sc fm) 397 150 (.if_icmp .eq 7) (153) := ri_of (by decide +kernel) rfl
theorem wi_397_153 : ri (rt_P sc fm) 397 153 (.iconst 1) (154) := ri_of (by decide +kernel) rfl
theorem wi_397_154 : ri (rt_P sc fm) 397 154 (.goto 36) (157) := ri_of (by decide +kernel) rfl
theorem wi_397_157 : ri (rt_P sc fm) 397 157 (.iconst 0) (158) := ri_of (by decide +kernel) rfl
theorem wi_397_158 : ri (rt_P sc fm) 397 158 (.goto 32) (161) := ri_of (by decide +kernel) rfl
theorem wi_397_16 : ri (rt_P sc fm) 397 16 (.aload_n 0) (17) := ri_of (by decide +kernel) rfl
theorem wi_397_161 : ri (rt_P sc fm) 397 161 (.iload_n 2) (162) := ri_of (by decide +kernel) rfl
theorem wi_397_162 : ri (rt_P sc fm) 397 162 (.bipush 16) (164) := ri_of (by decide +kernel) rfl
theorem wi_397_164 : ri (rt_P sc fm) 397 164 (.if_icmp .eq 25) (167) := ri_of (by decide +kernel) rfl
theorem wi_397_167 : ri (rt_P sc fm) 397 167 (.iload_n 2) (168) := ri_of (by decide +kernel) rfl
theorem wi_397_168 : ri (rt_P sc fm) 397 168 (.bipush 15) (170) := ri_of (by decide +kernel) rfl
theorem wi_397_17 : ri (rt_P sc fm) 397 17 (.invokevirtual 480) (20) := ri_of (by decide +kernel) rfl
theorem wi_397_170 : ri (rt_P sc fm) 397 170 (.if_icmp .eq 15) (173) := ri_of (by decide +kernel) rfl
theorem wi_397_173 : ri (rt_P sc fm) 397 173 (.aload_n 0) (174) := ri_of (by decide +kernel) rfl
theorem wi_397_174 : ri (rt_P sc fm) 397 174 (.getfield 137) (177) := ri_of (by decide +kernel) rfl
theorem wi_397_177 : ri (rt_P sc fm) 397 177 (.iload 9) (179) := ri_of (by decide +kernel) rfl
theorem wi_397_179 : ri (rt_P sc fm) 397 179 (.iaload) (180) := ri_of (by decide +kernel) rfl
theorem wi_397_180 : ri (rt_P sc fm) 397 180 (.iload_n 2) (181) := ri_of (by decide +kernel) rfl
theorem wi_397_181 : ri (rt_P sc fm) 397 181 (.iand) (182) := ri_of (by decide +kernel) rfl
theorem wi_397_182 : ri (rt_P sc fm) 397 182 (.ifCond .eq 7) (185) := ri_of (by decide +kernel) rfl
theorem wi_397_185 : ri (rt_P sc fm) 397 185 (.iconst 1) (186) := ri_of (by decide +kernel) rfl
theorem wi_397_186 : ri (rt_P sc fm) 397 186 (.goto 4) (189) := ri_of (by decide +kernel) rfl
theorem wi_397_189 : ri (rt_P sc fm) 397 189 (.iconst 0) (190) := ri_of (by decide +kernel) rfl
theorem wi_397_190 : ri (rt_P sc fm) 397 190 (.istore 10) (192) := ri_of (by decide +kernel) rfl
theorem wi_397_192 : ri (rt_P sc fm) 397 192 (.iload 10) (194) := ri_of (by decide +kernel) rfl
theorem wi_397_194 : ri (rt_P sc fm) 397 194 (.ifCond .ne 16) (197) := ri_of (by decide +kernel) rfl
theorem wi_397_197 : ri (rt_P sc fm) 397 197 (.aload_n 0) (198) := ri_of (by decide +kernel) rfl
theorem wi_397_198 : ri (rt_P sc fm) 397 198 (.bipush 7) (200) := ri_of (by decide +kernel) rfl
theorem wi_397_20 : ri (rt_P sc fm) 397 20 (.return_) (21) := ri_of (by decide +kernel) rfl
theorem wi_397_200 : ri (rt_P sc fm) 397 200 (.aload_n 0) (201) := ri_of (by decide +kernel) rfl
theorem wi_397_201 : ri (rt_P sc fm) 397 201 (.getfield 87) (204) := ri_of (by decide +kernel) rfl
theorem wi_397_204 : ri (rt_P sc fm) 397 204 (.iload 5) (206) := ri_of (by decide +kernel) rfl
theorem wi_397_206 : ri (rt_P sc fm) 397 206 (.iaload) (207) := ri_of (by decide +kernel) rfl
theorem wi_397_207 : ri (rt_P sc fm) 397 207 (.invokevirtual 432) (210) := ri_of (by decide +kernel) rfl
theorem wi_397_21 : ri (rt_P sc fm) 397 21 (.iconst 1) (22) := ri_of (by decide +kernel) rfl
theorem wi_397_210 : ri (rt_P sc fm) 397 210 (.aload_n 0) (211) := ri_of (by decide +kernel) rfl
theorem wi_397_211 : ri (rt_P sc fm) 397 211 (.getfield 409) (214) := ri_of (by decide +kernel) rfl
theorem wi_397_214 : ri (rt_P sc fm) 397 214 (.ifCond .eq 4) (217) := ri_of (by decide +kernel) rfl
theorem wi_397_217 : ri (rt_P sc fm) 397 217 (.return_) (218) := ri_of (by decide +kernel) rfl
theorem wi_397_218 : ri (rt_P sc fm) 397 218 (.aload_n 0) (219) := ri_of (by decide +kernel) rfl
theorem wi_397_219 : ri (rt_P sc fm) 397 219 (.iload_n 1) (220) := ri_of (by decide +kernel) rfl
theorem wi_397_22 : ri (rt_P sc fm) 397 22 (.istore 4) (24) := ri_of (by decide +kernel) rfl
theorem wi_397_220 : ri (rt_P sc fm) 397 220 (.lload 6) (222) := ri_of (by decide +kernel) rfl
theorem wi_397_222 : ri (rt_P sc fm) 397 222 (.iload 4) (224) := ri_of (by decide +kernel) rfl
theorem wi_397_224 : ri (rt_P sc fm) 397 224 (.invokevirtual 555) (227) := ri_of (by decide +kernel) rfl
theorem wi_397_227 : ri (rt_P sc fm) 397 227 (.iload 4) (229) := ri_of (by decide +kernel) rfl
theorem wi_397_229 : ri (rt_P sc fm) 397 229 (.ifCond .eq 4) (232) := ri_of (by decide +kernel) rfl
theorem wi_397_232 : ri (rt_P sc fm) 397 232 (.return_) (233) := ri_of (by decide +kernel) rfl
theorem wi_397_233 : ri (rt_P sc fm) 397 233 (.aload_n 0) (234) := ri_of (by decide +kernel) rfl
theorem wi_397_234 : ri (rt_P sc fm) 397 234 (.iload_n 1) (235) := ri_of (by decide +kernel) rfl
theorem wi_397_235 : ri (rt_P sc fm) 397 235 (.aload_n 0) (236) := ri_of (by decide +kernel) rfl
theorem wi_397_236 : ri (rt_P sc fm) 397 236 (.getfield 218) (239) := ri_of (by decide +kernel) rfl
theorem wi_397_239 : ri (rt_P sc fm) 397 239 (.iload_n 1) (240) := ri_of (by decide +kernel) rfl
theorem wi_397_24 : ri (rt_P sc fm) 397 24 (.aload_n 0) (25) := ri_of (by decide +kernel) rfl
theorem wi_397_240 : ri (rt_P sc fm) 397 240 (.iaload) (241) := ri_of (by decide +kernel) rfl
theorem wi_397_241 : ri (rt_P sc fm) 397 241 (.iconst 1) (242) := ri_of (by decide +kernel) rfl
theorem wi_397_242 : ri (rt_P sc fm) 397 242 (.isub) (243) := ri_of (by decide +kernel) rfl
theorem wi_397_243 : ri (rt_P sc fm) 397 243 (.invokevirtual 543) (246) := ri_of (by decide +kernel) rfl
theorem wi_397_246 : ri (rt_P sc fm) 397 246 (.istore 11) (248) := ri_of (by decide +kernel) rfl
theorem wi_397_248 : ri (rt_P sc fm) 397 248 (.iload 8) (250) := ri_of (by decide +kernel) rfl
theorem wi_397_25 : ri (rt_P sc fm) 397 25 (.dup) (26) := ri_of (by decide +kernel) rfl
theorem wi_397_250 : ri (rt_P sc fm) 397 250 (.ifCond .lt 71) (253) := ri_of (by decide +kernel) rfl
theorem wi_397_253 : ri (rt_P sc fm) 397 253 (.aload_n 0) (254) := ri_of (by decide +kernel) rfl
theorem wi_397_254 : ri (rt_P sc fm) 397 254 (.bipush 46) (256) := ri_of (by decide +kernel) rfl
theorem wi_397_256 : ri (rt_P sc fm) 397 256 (.invokevirtual 521) (259) := ri_of (by decide +kernel) rfl
theorem wi_397_259 : ri (rt_P sc fm) 397 259 (.aload_n 0) (260) := ri_of (by decide +kernel) rfl
theorem wi_397_26 : ri (rt_P sc fm) 397 26 (.getfield 471) (29) := ri_of (by decide +kernel) rfl
theorem wi_397_260 : ri (rt_P sc fm) 397 260 (.getfield 471) (263) := ri_of (by decide +kernel) rfl
theorem wi_397_263 : ri (rt_P sc fm) 397 263 (.istore 12) (265) := ri_of (by decide +kernel) rfl
theorem wi_397_265 : ri (rt_P sc fm) 397 265 (.aload_n 0) (266) := ri_of (by decide +kernel) rfl
theorem wi_397_266 : ri (rt_P sc fm) 397 266 (.invokevirtual 505) (269) := ri_of (by decide +kernel) rfl
theorem wi_397_269 : ri (rt_P sc fm) 397 269 (.lstore 13) (271) := ri_of (by decide +kernel) rfl
theorem wi_397_271 : ri (rt_P sc fm) 397 271 (.aload_n 0) (272) := ri_of (by decide +kernel) rfl
theorem wi_397_272 : ri (rt_P sc fm) 397 272 (.getfield 409) (275) := ri_of (by decide +kernel) rfl
theorem wi_397_275 : ri (rt_P sc fm) 397 275 (.ifCond .ne 26) (278) := ri_of (by decide +kernel) rfl
theorem wi_397_278 : ri (rt_P sc fm) 397 278 (.aload_n 0) (279) := ri_of (by decide +kernel) rfl
theorem wi_397_279 : ri (rt_P sc fm) 397 279 (.iload 8) (281) := ri_of (by decide +kernel) rfl
theorem wi_397_281 : ri (rt_P sc fm) 397 281 (.lload 13) (283) := ri_of (by decide +kernel) rfl
theorem wi_397_283 : ri (rt_P sc fm) 397 283 (.invokevirtual 513) (286) := ri_of (by decide +kernel) rfl
theorem wi_397_286 : ri (rt_P sc fm) 397 286 (.ifCond .ge 15) (289) := ri_of (by decide +kernel) rfl
theorem wi_397_289 : ri (rt_P sc fm) 397 289 (.aload_n 0) (290) := ri_of (by decide +kernel) rfl
theorem wi_397_29 : ri (rt_P sc fm) 397 29 (.iconst 1) (30) := ri_of (by decide +kernel) rfl
theorem wi_397_290 : ri (rt_P sc fm) 397 290 (.iconst 5) (291) := ri_of (by decide +kernel) rfl
theorem wi_397_291 : ri (rt_P sc fm) 397 291 (.aload_n 0) (292) := ri_of (by decide +kernel) rfl
theorem wi_397_292 : ri (rt_P sc fm) 397 292 (.getfield 87) (295) := ri_of (by decide +kernel) rfl
theorem wi_397_295 : ri (rt_P sc fm) 397 295 (.iload 12) (297) := ri_of (by decide +kernel) rfl
theorem wi_397_297 : ri (rt_P sc fm) 397 297 (.iaload) (298) := ri_of (by decide +kernel) rfl
theorem wi_397_298 : ri (rt_P sc fm) 397 298 (.invokevirtual 432) (301) := ri_of (by decide +kernel) rfl
theorem wi_397_3 : ri (rt_P sc fm) 397 3 (.aload_n 0) (4) := ri_of (by decide +kernel) rfl
theorem wi_397_30 : ri (rt_P sc fm) 397 30 (.iadd) (31) := ri_of (by decide +kernel) rfl
theorem wi_397_301 : ri (rt_P sc fm) 397 301 (.aload_n 0) (302) := ri_of (by decide +kernel) rfl
theorem wi_397_302 : ri (rt_P sc fm) 397 302 (.getfield 409) (305) := ri_of (by decide +kernel) rfl
theorem wi_397_305 : ri (rt_P sc fm) 397 305 (.ifCond .ne 15) (308) := ri_of (by decide +kernel) rfl
theorem wi_397_308 : ri (rt_P sc fm) 397 308 (.aload_n 0) (309) := ri_of (by decide +kernel) rfl
theorem wi_397_309 : ri (rt_P sc fm) 397 309 (.iload 11) (311) := ri_of (by decide +kernel) rfl
theorem wi_397_31 : ri (rt_P sc fm) 397 31 (.putfield 471) (34) := ri_of (by decide +kernel) rfl
theorem wi_397_311 : ri (rt_P sc fm) 397 311 (.ldc2_w 559) (314) := ri_of (by decide +kernel) rfl
theorem wi_397_314 : ri (rt_P sc fm) 397 314 (.iconst 3) (315) := ri_of (by decide +kernel) rfl
theorem wi_397_315 : ri (rt_P sc fm) 397 315 (.lload 13) (317) := ri_of (by decide +kernel) rfl
theorem wi_397_317 : ri (rt_P sc fm) 397 317 (.invokevirtual 561) (320) := ri_of (by decide +kernel) rfl
theorem wi_397_320 : ri (rt_P sc fm) 397 320 (.return_) (321) := ri_of (by decide +kernel) rfl
theorem wi_397_321 : ri (rt_P sc fm) 397 321 (.aload_n 0) (322) := ri_of (by decide +kernel) rfl
theorem wi_397_322 : ri (rt_P sc fm) 397 322 (.bipush 40) (324) := ri_of (by decide +kernel) rfl
theorem wi_397_324 : ri (rt_P sc fm) 397 324 (.invokevirtual 483) (327) := ri_of (by decide +kernel) rfl
theorem wi_397_327 : ri (rt_P sc fm) 397 327 (.ifCond .eq 11) (330) := ri_of (by decide +kernel) rfl
theorem wi_397_330 : ri (rt_P sc fm) 397 330 (.aload_n 0) (331) := ri_of (by decide +kernel) rfl
theorem wi_397_331 : ri (rt_P sc fm) 397 331 (.iload 11) (333) := ri_of (by decide +kernel) rfl
theorem wi_397_333 : ri (rt_P sc fm) 397 333 (.iload 9) (335) := ri_of (by decide +kernel) rfl
theorem wi_397_335 : ri (rt_P sc fm) 397 335 (.invokevirtual 565) (338) := ri_of (by decide +kernel) rfl
theorem wi_397_338 : ri (rt_P sc fm) 397 338 (.iconst 0) (339) := ri_of (by decide +kernel) rfl
theorem wi_397_339 : ri (rt_P sc fm) 397 339 (.istore 12) (341) := ri_of (by decide +kernel) rfl
theorem wi_397_34 : ri (rt_P sc fm) 397 34 (.aload_n 0) (35) := ri_of (by decide +kernel) rfl
theorem wi_397_341 : ri (rt_P sc fm) 397 341 (.iload 12) (343) := ri_of (by decide +kernel) rfl
theorem wi_397_343 : ri (rt_P sc fm) 397 343 (.aload_n 0) (344) := ri_of (by decide +kernel) rfl
theorem wi_397_344 : ri (rt_P sc fm) 397 344 (.getfield 122) (347) := ri_of (by decide +kernel) rfl
theorem wi_397_347 : ri (rt_P sc fm) 397 347 (.iload 9) (349) := ri_of (by decide +kernel) rfl
theorem wi_397_349 : ri (rt_P sc fm) 397 349 (.iaload) (350) := ri_of (by decide +kernel) rfl
theorem wi_397_35 : ri (rt_P sc fm) 397 35 (.getfield 471) (38) := ri_of (by decide +kernel) rfl
theorem wi_397_350 : ri (rt_P sc fm) 397 350 (.if_icmp .ge 109) (353) := ri_of (by decide +kernel) rfl
theorem wi_397_353 : ri (rt_P sc fm) 397 353 (.aload_n 0) (354) := ri_of (by decide +kernel) rfl
theorem wi_397_354 : ri (rt_P sc fm) 397 354 (.getfield 409) (357) := ri_of (by decide +kernel) rfl
theorem wi_397_357 : ri (rt_P sc fm) 397 357 (.ifCond .ne 102) (360) := ri_of (by decide +kernel) rfl
theorem wi_397_360 : ri (rt_P sc fm) 397 360 (.aload_n 0) (361) := ri_of (by decide +kernel) rfl
theorem wi_397_361 : ri (rt_P sc fm) 397 361 (.getfield 131) (364) := ri_of (by decide +kernel) rfl
theorem wi_397_364 : ri (rt_P sc fm) 397 364 (.iconst 4) (365) := ri_of (by decide +kernel) rfl
theorem wi_397_365 : ri (rt_P sc fm) 397 365 (.iload 9) (367) := ri_of (by decide +kernel) rfl
theorem wi_397_367 : ri (rt_P sc fm) 397 367 (.imul) (368) := ri_of (by decide +kernel) rfl
theorem wi_397_368 : ri (rt_P sc fm) 397 368 (.iload 12) (370) := ri_of (by decide +kernel) rfl
theorem wi_397_370 : ri (rt_P sc fm) 397 370 (.iadd) (371) := ri_of (by decide +kernel) rfl
theorem wi_397_371 : ri (rt_P sc fm) 397 371 (.baload) (372) := ri_of (by decide +kernel) rfl
theorem wi_397_372 : ri (rt_P sc fm) 397 372 (.istore 13) (374) := ri_of (by decide +kernel) rfl
theorem wi_397_374 : ri (rt_P sc fm) 397 374 (.iconst 0) (375) := ri_of (by decide +kernel) rfl
theorem wi_397_375 : ri (rt_P sc fm) 397 375 (.istore 14) (377) := ri_of (by decide +kernel) rfl
theorem wi_397_377 : ri (rt_P sc fm) 397 377 (.iload 14) (379) := ri_of (by decide +kernel) rfl
theorem wi_397_379 : ri (rt_P sc fm) 397 379 (.aload_n 0) (380) := ri_of (by decide +kernel) rfl
theorem wi_397_38 : ri (rt_P sc fm) 397 38 (.istore 5) (40) := ri_of (by decide +kernel) rfl
theorem wi_397_380 : ri (rt_P sc fm) 397 380 (.getfield 227) (383) := ri_of (by decide +kernel) rfl
theorem wi_397_383 : ri (rt_P sc fm) 397 383 (.iload 11) (385) := ri_of (by decide +kernel) rfl
theorem wi_397_385 : ri (rt_P sc fm) 397 385 (.iaload) (386) := ri_of (by decide +kernel) rfl
theorem wi_397_386 : ri (rt_P sc fm) 397 386 (.if_icmp .ge 49) (389) := ri_of (by decide +kernel) rfl
theorem wi_397_389 : ri (rt_P sc fm) 397 389 (.iload 13) (391) := ri_of (by decide +kernel) rfl
theorem wi_397_391 : ri (rt_P sc fm) 397 391 (.ifCond .ne 31) (394) := ri_of (by decide +kernel) rfl
theorem wi_397_394 : ri (rt_P sc fm) 397 394 (.aload_n 0) (395) := ri_of (by decide +kernel) rfl
theorem wi_397_395 : ri (rt_P sc fm) 397 395 (.getfield 231) (398) := ri_of (by decide +kernel) rfl
theorem wi_397_398 : ri (rt_P sc fm) 397 398 (.iload 11) (400) := ri_of (by decide +kernel) rfl
theorem wi_397_4 : ri (rt_P sc fm) 397 4 (.bipush 11) (6) := ri_of (by decide +kernel) rfl
theorem wi_397_40 : ri (rt_P sc fm) 397 40 (.aload_n 0) (41) := ri_of (by decide +kernel) rfl
theorem wi_397_400 : ri (rt_P sc fm) 397 400 (.iconst 4) (401) := ri_of (by decide +kernel) rfl
theorem wi_397_401 : ri (rt_P sc fm) 397 401 (.imul) (402) := ri_of (by decide +kernel) rfl
theorem wi_397_402 : ri (rt_P sc fm) 397 402 (.iload 14) (404) := ri_of (by decide +kernel) rfl
theorem wi_397_404 : ri (rt_P sc fm) 397 404 (.iadd) (405) := ri_of (by decide +kernel) rfl
theorem wi_397_405 : ri (rt_P sc fm) 397 405 (.laload) (406) := ri_of (by decide +kernel) rfl
theorem wi_397_406 : ri (rt_P sc fm) 397 406 (.aload_n 0) (407) := ri_of (by decide +kernel) rfl
theorem wi_397_407 : ri (rt_P sc fm) 397 407 (.getfield 125) (410) := ri_of (by decide +kernel) rfl
theorem wi_397_41 : ri (rt_P sc fm) 397 41 (.invokevirtual 505) (44) := ri_of (by decide +kernel) rfl
theorem wi_397_410 : ri (rt_P sc fm) 397 410 (.iconst 4) (411) := ri_of (by decide +kernel) rfl
theorem wi_397_411 : ri (rt_P sc fm) 397 411 (.iload 9) (413) := ri_of (by decide +kernel) rfl
theorem wi_397_413 : ri (rt_P sc fm) 397 413 (.imul) (414) := ri_of (by decide +kernel) rfl
theorem wi_397_414 : ri (rt_P sc fm) 397 414 (.iload 12) (416) := ri_of (by decide +kernel) rfl
theorem wi_397_416 : ri (rt_P sc fm) 397 416 (.iadd) (417) := ri_of (by decide +kernel) rfl
theorem wi_397_417 : ri (rt_P sc fm) 397 417 (.laload) (418) := ri_of (by decide +kernel) rfl
theorem wi_397_418 : ri (rt_P sc fm) 397 418 (.lcmp) (419) := ri_of (by decide +kernel) rfl
theorem wi_397_419 : ri (rt_P sc fm) 397 419 (.ifCond .ne 7) (422) := ri_of (by decide +kernel) rfl
theorem wi_397_422 : ri (rt_P sc fm) 397 422 (.iconst 1) (423) := ri_of (by decide +kernel) rfl
theorem wi_397_423 : ri (rt_P sc fm) 397 423 (.goto 4) (426) := ri_of (by decide +kernel) rfl
theorem wi_397_426 : ri (rt_P sc fm) 397 426 (.iconst 0) (427) := ri_of (by decide +kernel) rfl
theorem wi_397_427 : ri (rt_P sc fm) 397 427 (.istore 13) (429) := ri_of (by decide +kernel) rfl
theorem wi_397_429 : ri (rt_P sc fm) 397 429 (.iinc 14 1) (432) := ri_of (by decide +kernel) rfl
theorem wi_397_432 : ri (rt_P sc fm) 397 432 (.goto (-55)) (435) := ri_of (by decide +kernel) rfl
theorem wi_397_435 : ri (rt_P sc fm) 397 435 (.iload 13) (437) := ri_of (by decide +kernel) rfl
theorem wi_397_437 : ri (rt_P sc fm) 397 437 (.ifCond .ne 16) (440) := ri_of (by decide +kernel) rfl
theorem wi_397_44 : ri (rt_P sc fm) 397 44 (.lstore 6) (46) := ri_of (by decide +kernel) rfl
theorem wi_397_440 : ri (rt_P sc fm) 397 440 (.aload_n 0) (441) := ri_of (by decide +kernel) rfl
theorem wi_397_441 : ri (rt_P sc fm) 397 441 (.bipush 7) (443) := ri_of (by decide +kernel) rfl
theorem wi_397_443 : ri (rt_P sc fm) 397 443 (.aload_n 0) (444) := ri_of (by decide +kernel) rfl
theorem wi_397_444 : ri (rt_P sc fm) 397 444 (.getfield 87) (447) := ri_of (by decide +kernel) rfl
theorem wi_397_447 : ri (rt_P sc fm) 397 447 (.iload 5) (449) := ri_of (by decide +kernel) rfl
theorem wi_397_449 : ri (rt_P sc fm) 397 449 (.iaload) (450) := ri_of (by decide +kernel) rfl
theorem wi_397_450 : ri (rt_P sc fm) 397 450 (.invokevirtual 432) (453) := ri_of (by decide +kernel) rfl
theorem wi_397_453 : ri (rt_P sc fm) 397 453 (.iinc 12 1) (456) := ri_of (by decide +kernel) rfl
theorem wi_397_456 : ri (rt_P sc fm) 397 456 (.goto (-115)) (459) := ri_of (by decide +kernel) rfl
theorem wi_397_459 : ri (rt_P sc fm) 397 459 (.return_) (460) := ri_of (by decide +kernel) rfl
theorem wi_397_46 : ri (rt_P sc fm) 397 46 (.aload_n 0) (47) := ri_of (by decide +kernel) rfl
theorem wi_397_47 : ri (rt_P sc fm) 397 47 (.getfield 409) (50) := ri_of (by decide +kernel) rfl
theorem wi_397_50 : ri (rt_P sc fm) 397 50 (.ifCond .eq 4) (53) := ri_of (by decide +kernel) rfl
theorem wi_397_53 : ri (rt_P sc fm) 397 53 (.return_) (54) := ri_of (by decide +kernel) rfl
theorem wi_397_54 : ri (rt_P sc fm) 397 54 (.aload_n 0) (55) := ri_of (by decide +kernel) rfl
theorem wi_397_55 : ri (rt_P sc fm) 397 55 (.lload 6) (57) := ri_of (by decide +kernel) rfl
theorem wi_397_57 : ri (rt_P sc fm) 397 57 (.invokevirtual 459) (60) := ri_of (by decide +kernel) rfl
theorem wi_397_6 : ri (rt_P sc fm) 397 6 (.invokevirtual 474) (9) := ri_of (by decide +kernel) rfl
theorem wi_397_60 : ri (rt_P sc fm) 397 60 (.istore 8) (62) := ri_of (by decide +kernel) rfl
theorem wi_397_62 : ri (rt_P sc fm) 397 62 (.aload_n 0) (63) := ri_of (by decide +kernel) rfl
theorem wi_397_63 : ri (rt_P sc fm) 397 63 (.lload 6) (65) := ri_of (by decide +kernel) rfl
theorem wi_397_65 : ri (rt_P sc fm) 397 65 (.invokevirtual 462) (68) := ri_of (by decide +kernel) rfl
theorem wi_397_68 : ri (rt_P sc fm) 397 68 (.istore 9) (70) := ri_of (by decide +kernel) rfl
theorem wi_397_70 : ri (rt_P sc fm) 397 70 (.iload 8) (72) := ri_of (by decide +kernel) rfl
theorem wi_397_72 : ri (rt_P sc fm) 397 72 (.ifCond .ge 20) (75) := ri_of (by decide +kernel) rfl
theorem wi_397_75 : ri (rt_P sc fm) 397 75 (.iload 9) (77) := ri_of (by decide +kernel) rfl
theorem wi_397_77 : ri (rt_P sc fm) 397 77 (.ifCond .ge 15) (80) := ri_of (by decide +kernel) rfl
theorem wi_397_80 : ri (rt_P sc fm) 397 80 (.aload_n 0) (81) := ri_of (by decide +kernel) rfl
theorem wi_397_81 : ri (rt_P sc fm) 397 81 (.iconst 5) (82) := ri_of (by decide +kernel) rfl
theorem wi_397_82 : ri (rt_P sc fm) 397 82 (.aload_n 0) (83) := ri_of (by decide +kernel) rfl
theorem wi_397_83 : ri (rt_P sc fm) 397 83 (.getfield 87) (86) := ri_of (by decide +kernel) rfl
theorem wi_397_86 : ri (rt_P sc fm) 397 86 (.iload 5) (88) := ri_of (by decide +kernel) rfl
theorem wi_397_88 : ri (rt_P sc fm) 397 88 (.iaload) (89) := ri_of (by decide +kernel) rfl
theorem wi_397_89 : ri (rt_P sc fm) 397 89 (.invokevirtual 432) (92) := ri_of (by decide +kernel) rfl
theorem wi_397_9 : ri (rt_P sc fm) 397 9 (.ifCond .eq 25) (12) := ri_of (by decide +kernel) rfl
theorem wi_397_92 : ri (rt_P sc fm) 397 92 (.aload_n 0) (93) := ri_of (by decide +kernel) rfl
theorem wi_397_93 : ri (rt_P sc fm) 397 93 (.getfield 409) (96) := ri_of (by decide +kernel) rfl
theorem wi_397_96 : ri (rt_P sc fm) 397 96 (.ifCond .eq 4) (99) := ri_of (by decide +kernel) rfl
theorem wi_397_99 : ri (rt_P sc fm) 397 99 (.return_) (100) := ri_of (by decide +kernel) rfl
theorem wk_397_559 : rx_kt (rt_P sc fm) 397 559 = some (.long (24948)) := (by decide +kernel : rt_kt 397 559 = some (.long (24948)))
theorem wm_393 : rx_ml (rt_P sc fm) 393 = 6 := (by decide +kernel : rt_ml 393 = 6)
theorem wm_395 : rx_ml (rt_P sc fm) 395 = 7 := (by decide +kernel : rt_ml 395 = 7)
theorem wm_398 : rx_ml (rt_P sc fm) 398 = 9 := (by decide +kernel : rt_ml 398 = 9)
theorem wp_397_471 : rx_pt (rt_P sc fm) 397 471 = some (15, 67, .int) := (by decide +kernel : rt_pt 397 471 = some (15, 67, .int))
theorem wr_397 : rx_rt (rt_P sc fm) 397 = none := (by decide +kernel : rt_rt 397 = none)
/-- MarkHouseModel.readMark(IIZ)V -/
def d_397 (n : Nat) (a1 : Int32) (a2 : Int32) (a3 : Int32) (c : cS) : Option (cS) :=
  Option.bind (d_100 n 11 c) (fun v2 =>
  jn (fun p3 : Int32 × cS =>
    lt ((p3.2.1 174 67) : Int32) (fun v5 =>
    Option.bind (d_381 n p3.2) (fun r7 =>
    if (r7.2.1 174 13) = 0 then
      Option.bind (d_372 n r7.1 r7.2) (fun v9 =>
      Option.bind (d_373 n r7.1 r7.2) (fun v11 =>
      jn (fun p13 : cS =>
        if (p13.1 174 13) = 0 then
          jn (fun p14 : cS =>
            jn (fun p15 : Int32 =>
              jn (fun p17 : cS =>
                if (p17.1 174 13) = 0 then
                  Option.bind (d_393 n a1 r7.1 p3.1 p17) (fun r18 =>
                  if p3.1 = 0 then
                    if ib a1 1219 then
                    Option.bind (d_392 n a1 ((r18.1 222 (ix a1)) - 1)) (fun v20 =>
                    if v9 < 0 then
                      Option.bind (d_379 n 40 r18) (fun r22 =>
                      jn (fun p23 : cS =>
                        Option.bind (whl (R := (cS)) (fun s25 : Int32 × cS =>
                          if ib v11 12 then
                          if (s25.2.1 190 (ix v11)) ≤ s25.1 then
                            some (.inr s25.2)
                          else
                            if (s25.2.1 174 13) = 0 then
                              if ib ((4 * v11) + s25.1) 48 then
                              lt ((s25.2.1 193 (ix ((4 * v11) + s25.1))) : Int32) (fun v29 =>
                              Option.bind (whl (R := (Int32)) (fun s32 : Int32 × Int32 =>
                                if ib v20 24380 then
                                if (s25.2.1 225 (ix v20)) ≤ s32.2 then
                                  some (.inr s32.1)
                                else
                                  jn (fun p34 : Int32 =>
                                    lt (s32.2 + 1 : Int32) (fun v37 =>
                                    some (.inl (p34, v37))))
                                  (fun j427 =>
                                  jn (fun p39 : Unit =>
                                    j427 1)
                                  (fun j422 =>
                                  if s32.1 = 0 then
                                    if ib ((v20 * 4) + s32.2) 97520 then
                                    if ib ((4 * v11) + s25.1) 48 then
                                    if (lg_cmp (s25.2.2 226 (ix ((v20 * 4) + s32.2))) (s25.2.2 191 (ix ((4 * v11) + s25.1)))) = 0 then
                                      j422 ()
                                    else
                                      j427 0
                                    else none
                                    else none
                                  else
                                    j422 ()))
                                else none) n (v29, 0))
                              (fun x42 : Int32 =>
                                jn (fun p43 : cS =>
                                  lt (s25.1 + 1 : Int32) (fun v45 =>
                                  some (.inl (v45, p43))))
                                (fun j453 =>
                                if x42 = 0 then
                                  if ib v5 4001 then
                                  Option.bind (d_97 n 7 (s25.2.1 179 (ix v5)) s25.2) (fun r48 =>
                                  j453 r48)
                                  else none
                                else
                                  j453 s25.2)))
                              else none
                            else
                              some (.inr s25.2)
                          else none) n (0, p23))
                        (fun x49 : cS =>
                          some x49))
                      (fun j338 =>
                      if r22.1 = 0 then
                        j338 r22.2
                      else
                        Option.bind (d_398 n v20 v11 r22.2) (fun r50 =>
                        j338 r50)))
                    else
                      Option.bind (d_380 n 46 r18) (fun r51 =>
                      lt ((r51.1 174 67) : Int32) (fun v53 =>
                      Option.bind (d_381 n r51) (fun r55 =>
                      jn (fun p57 : cS =>
                        jn (fun p58 : cS =>
                          some p58)
                        (fun j320 =>
                        if (p57.1 174 13) = 0 then
                          Option.bind (d_394 n v20 24948 3 r55.1 p57) (fun r59 =>
                          j320 r59)
                        else
                          j320 p57))
                      (fun j301 =>
                      if (r55.2.1 174 13) = 0 then
                        Option.bind (d_377 n v9 r55.1 r55.2) (fun v60 =>
                        if 0 ≤ v60 then
                          j301 r55.2
                        else
                          if ib v53 4001 then
                          Option.bind (d_97 n 5 (r55.2.1 179 (ix v53)) r55.2) (fun r62 =>
                          j301 r62)
                          else none)
                      else
                        j301 r55.2)))))
                    else none
                  else
                    some r18)
                else
                  some p17)
              (fun j210 =>
              if p15 = 0 then
                if ib v5 4001 then
                Option.bind (d_97 n 7 (p14.1 179 (ix v5)) p14) (fun r64 =>
                j210 r64)
                else none
              else
                j210 p14))
            (fun j190 =>
            if v9 < 0 then
              jn (fun p65 : Unit =>
                j190 0)
              (fun j189 =>
              if a2 = 16 then
                j189 ()
              else
                jn (fun p66 : Unit =>
                  j190 1)
                (fun j185 =>
                if a2 = 15 then
                  j185 ()
                else
                  if ib v11 12 then
                  if ((p14.1 195 (ix v11)) &&& a2) = 0 then
                    j189 ()
                  else
                    j185 ()
                  else none))
            else
              if a2 = 1 then
                j190 0
              else
                j190 1))
          (fun j143 =>
          jn (fun p68 : Unit =>
            if ib a1 1219 then
            Option.bind (d_395 n a1 (p13.1 222 (ix a1)) r7.1 p13) (fun v70 =>
            if v70 = 0 then
              j143 p13
            else
              if ib v5 4001 then
              Option.bind (d_97 n 3 (p13.1 179 (ix v5)) p13) (fun r72 =>
              j143 r72)
              else none)
            else none)
          (fun j115 =>
          if 0 ≤ v9 then
            j115 ()
          else
            if ib v11 12 then
            if (p13.1 197 (ix v11)) = 0 then
              j115 ()
            else
              j143 p13
            else none))
        else
          some p13)
      (fun j92 =>
      if 0 ≤ v9 then
        j92 r7.2
      else
        if 0 ≤ v11 then
          j92 r7.2
        else
          if ib v5 4001 then
          Option.bind (d_97 n 5 (r7.2.1 179 (ix v5)) r7.2) (fun r75 =>
          j92 r75)
          else none)))
    else
      some r7.2)))
  (fun j34 =>
  if v2 = 0 then
    j34 (0, c)
  else
    if a3 = 0 then
      Option.bind (d_103 n c) (fun r79 =>
      some r79)
    else
      lt (pI c 174 67 ((c.1 174 67) + 1)) (fun c77 =>
      j34 (1, c77))))
set_option maxRecDepth 100000 in
set_option maxHeartbeats 4000000 in
theorem sp_397 {F Lo n : Nat} {a1 : Int32} {a2 : Int32} {a3 : Int32} {c y : cS} {w : cW} {K : cS → Prop} {Q : ((Option Value) ⊕ String) → List va_E → Prop} (hw : rOK fm w) (hF : 4 ≤ F) (hLo : 96 ≤ Lo)  (h : wp (d_397 n a1 a2 a3 c) K) (hQ : ∀ r, K r → Q (.inl none) (hq false r y w)) : rs (rt_P sc fm) 397 F Lo 0 [(0, .ref 174), (1, .int a1), (2, .int a2), (3, .int a3)] [] (hq false c y w) Q := by
  unfold d_397 at h
  obtain ⟨lv, elv⟩ : ∃ lv : rx_L, lv = [(0, .ref 174), (1, .int a1), (2, .int a2), (3, .int a3)] := ⟨_, rfl⟩
  rw [← elv]
  have l0 : rx_ld lv 0 = some (.ref 174) := by rw [elv]; rfl
  have l1 : rx_ld lv 1 = some (.int a1) := by rw [elv]; rfl
  have l2 : rx_ld lv 2 = some (.int a2) := by rw [elv]; rfl
  have l3 : rx_ld lv 3 = some (.int a3) := by rw [elv]; rfl
  refine rs_pure wi_397_0 rfl ?_
  refine rs_topi (v := 0) (by decide) ?_
  refine dl_ist wi_397_1 rfl (fun lv l4 t1 => ?_)
  have l0 := t1 _ _ (by decide) (Or.inl rfl) l0
  have l1 := t1 _ _ (by decide) (Or.inl rfl) l1
  have l2 := t1 _ _ (by decide) (Or.inl rfl) l2
  have l3 := t1 _ _ (by decide) (Or.inl rfl) l3
  refine rs_aldn wi_397_3 l0 ?_
  refine rs_pure wi_397_4 rfl ?_
  refine rs_topi (v := 11) (by decide) ?_
  refine rs_V wi_397_6 wc_397_474 rfl (dq_isa tf_174_0 wa_15_100) (Nat.le_trans (by decide) hF) (ml_le wm_100 (Nat.le_trans (by decide) hLo)) rfl (sp_100 hw (Nat.le_trans (by decide : 0 ≤ 4 - 1) (Nat.sub_le_sub_right hF 1)) (ml_sub wm_100 (Nat.le_trans (by decide : 0 ≤ 96 - 21) (Nat.sub_le_sub_right hLo 21))) (wp_bind h) (fun v2 h => rs_back1 ?_))
  refine wp_jn (B := fun p3 : Int32 × cS => ∀ lv, rx_ld lv 0 = some (.ref 174) → rx_ld lv 1 = some (.int a1) → rx_ld lv 2 = some (.int a2) → rx_ld lv 4 = some (.int p3.1) → rs (rt_P sc fm) 397 F Lo 34 lv [] (hq false p3.2 y w) Q) h (fun p3 h lv l0 l1 l2 l4 => ?_) (fun j34 hj34 h => ?_)
  ·
    refine rs_aldn wi_397_34 l0 ?_
    refine dq_gi wi_397_35 wf_397_471 tf_174_67 ?_
    obtain ⟨v5, e6, h⟩ := wp_lt h
    refine rs_topi e6 ?_
    refine dl_ist wi_397_38 rfl (fun lv l5 t4 => ?_)
    have l0 := t4 _ _ (by decide) (Or.inl rfl) l0
    have l1 := t4 _ _ (by decide) (Or.inl rfl) l1
    have l2 := t4 _ _ (by decide) (Or.inl rfl) l2
    have l4 := t4 _ _ (by decide) (Or.inl rfl) l4
    refine rs_aldn wi_397_40 l0 ?_
    refine rs_V wi_397_41 wc_397_505 rfl (dq_isa tf_174_0 wa_15_381) (Nat.le_trans (by decide) hF) (ml_le wm_381 (Nat.le_trans (by decide) hLo)) rfl (sp_381 hw (Nat.le_trans (by decide : 2 ≤ 4 - 1) (Nat.sub_le_sub_right hF 1)) (ml_sub wm_381 (Nat.le_trans (by decide : 42 ≤ 96 - 20) (Nat.sub_le_sub_right hLo 20))) (wp_bind h) (fun r7 h => rs_back1 ?_))
    refine dl_lst wi_397_44 rfl (fun lv l6 t8 => ?_)
    have l0 := t8 _ _ (by decide) (by decide) (Or.inl rfl) l0
    have l1 := t8 _ _ (by decide) (by decide) (Or.inl rfl) l1
    have l2 := t8 _ _ (by decide) (by decide) (Or.inl rfl) l2
    have l4 := t8 _ _ (by decide) (by decide) (Or.inl rfl) l4
    have l5 := t8 _ _ (by decide) (by decide) (Or.inl rfl) l5
    refine rs_aldn wi_397_46 l0 ?_
    refine dq_gi wi_397_47 wf_397_409 tf_174_13 ?_
    refine rs_ifeq (tg := 54) wi_397_50 ⟨by decide, by decide⟩ (fun q => ?_) (fun q => ?_)
    ·
      have h := wp_pos h q
      refine rs_aldn wi_397_54 l0 ?_
      refine rs_lld wi_397_55 l6 ?_
      refine rs_V wi_397_57 wc_397_459 rfl (dq_isa tf_174_0 wa_15_372) (Nat.le_trans (by decide) hF) (ml_le wm_372 (Nat.le_trans (by decide) hLo)) rfl (sp_372 hw (Nat.le_trans (by decide : 0 ≤ 4 - 1) (Nat.sub_le_sub_right hF 1)) (ml_sub wm_372 (Nat.le_trans (by decide : 0 ≤ 96 - 23) (Nat.sub_le_sub_right hLo 23))) (wp_bind h) (fun v9 h => rs_back1 ?_))
      refine dl_ist wi_397_60 rfl (fun lv l8 t10 => ?_)
      have l0 := t10 _ _ (by decide) (Or.inl rfl) l0
      have l1 := t10 _ _ (by decide) (Or.inl rfl) l1
      have l2 := t10 _ _ (by decide) (Or.inl rfl) l2
      have l4 := t10 _ _ (by decide) (Or.inl rfl) l4
      have l5 := t10 _ _ (by decide) (Or.inl rfl) l5
      have l6 := t10 _ _ (by decide) (Or.inr (by decide)) l6
      refine rs_aldn wi_397_62 l0 ?_
      refine rs_lld wi_397_63 l6 ?_
      refine rs_V wi_397_65 wc_397_462 rfl (dq_isa tf_174_0 wa_15_373) (Nat.le_trans (by decide) hF) (ml_le wm_373 (Nat.le_trans (by decide) hLo)) rfl (sp_373 hw (Nat.le_trans (by decide : 0 ≤ 4 - 1) (Nat.sub_le_sub_right hF 1)) (ml_sub wm_373 (Nat.le_trans (by decide : 0 ≤ 96 - 23) (Nat.sub_le_sub_right hLo 23))) (wp_bind h) (fun v11 h => rs_back1 ?_))
      refine dl_ist wi_397_68 rfl (fun lv l9 t12 => ?_)
      have l0 := t12 _ _ (by decide) (Or.inl rfl) l0
      have l1 := t12 _ _ (by decide) (Or.inl rfl) l1
      have l2 := t12 _ _ (by decide) (Or.inl rfl) l2
      have l4 := t12 _ _ (by decide) (Or.inl rfl) l4
      have l5 := t12 _ _ (by decide) (Or.inl rfl) l5
      have l6 := t12 _ _ (by decide) (Or.inr (by decide)) l6
      have l8 := t12 _ _ (by decide) (Or.inl rfl) l8
      refine rs_ild wi_397_70 l8 ?_
      refine wp_jn (B := fun p13 : cS => ∀ lv, rx_ld lv 0 = some (.ref 174) → rx_ld lv 1 = some (.int a1) → rx_ld lv 2 = some (.int a2) → rx_ld lv 4 = some (.int p3.1) → rx_ld lv 5 = some (.int v5) → rx_ld lv 6 = some (.long r7.1) → rx_ld lv 8 = some (.int v9) → rx_ld lv 9 = some (.int v11) → rs (rt_P sc fm) 397 F Lo 92 lv [] (hq false p13 y w) Q) h (fun p13 h lv l0 l1 l2 l4 l5 l6 l8 l9 => ?_) (fun j92 hj92 h => ?_)
      ·
        refine rs_aldn wi_397_92 l0 ?_
        refine dq_gi wi_397_93 wf_397_409 tf_174_13 ?_
        refine rs_ifeq (tg := 100) wi_397_96 ⟨by decide, by decide⟩ (fun q => ?_) (fun q => ?_)
        ·
          have h := wp_pos h q
          refine rs_ild wi_397_100 l8 ?_
          refine wp_jn (B := fun p14 : cS => ∀ lv, rx_ld lv 0 = some (.ref 174) → rx_ld lv 1 = some (.int a1) → rx_ld lv 2 = some (.int a2) → rx_ld lv 4 = some (.int p3.1) → rx_ld lv 5 = some (.int v5) → rx_ld lv 6 = some (.long r7.1) → rx_ld lv 8 = some (.int v9) → rx_ld lv 9 = some (.int v11) → rs (rt_P sc fm) 397 F Lo 143 lv [] (hq false p14 y w) Q) h (fun p14 h lv l0 l1 l2 l4 l5 l6 l8 l9 => ?_) (fun j143 hj143 h => ?_)
          ·
            refine rs_ild wi_397_143 l8 ?_
            refine wp_jn (B := fun p15 : Int32 => ∀ lv, rx_ld lv 0 = some (.ref 174) → rx_ld lv 1 = some (.int a1) → rx_ld lv 4 = some (.int p3.1) → rx_ld lv 5 = some (.int v5) → rx_ld lv 6 = some (.long r7.1) → rx_ld lv 8 = some (.int v9) → rx_ld lv 9 = some (.int v11) → rs (rt_P sc fm) 397 F Lo 190 lv [.int p15] (hq false p14 y w) Q) h (fun p15 h lv l0 l1 l4 l5 l6 l8 l9 => ?_) (fun j190 hj190 h => ?_)
            ·
              refine dl_ist wi_397_190 rfl (fun lv l10 t16 => ?_)
              have l0 := t16 _ _ (by decide) (Or.inl rfl) l0
              have l1 := t16 _ _ (by decide) (Or.inl rfl) l1
              have l4 := t16 _ _ (by decide) (Or.inl rfl) l4
              have l5 := t16 _ _ (by decide) (Or.inl rfl) l5
              have l6 := t16 _ _ (by decide) (Or.inr (by decide)) l6
              have l8 := t16 _ _ (by decide) (Or.inl rfl) l8
              have l9 := t16 _ _ (by decide) (Or.inl rfl) l9
              refine rs_ild wi_397_192 l10 ?_
              refine wp_jn (B := fun p17 : cS => ∀ lv, rx_ld lv 0 = some (.ref 174) → rx_ld lv 1 = some (.int a1) → rx_ld lv 4 = some (.int p3.1) → rx_ld lv 5 = some (.int v5) → rx_ld lv 6 = some (.long r7.1) → rx_ld lv 8 = some (.int v9) → rx_ld lv 9 = some (.int v11) → rs (rt_P sc fm) 397 F Lo 210 lv [] (hq false p17 y w) Q) h (fun p17 h lv l0 l1 l4 l5 l6 l8 l9 => ?_) (fun j210 hj210 h => ?_)
              ·
                refine rs_aldn wi_397_210 l0 ?_
                refine dq_gi wi_397_211 wf_397_409 tf_174_13 ?_
                refine rs_ifeq (tg := 218) wi_397_214 ⟨by decide, by decide⟩ (fun q => ?_) (fun q => ?_)
                ·
                  have h := wp_pos h q
                  refine rs_aldn wi_397_218 l0 ?_
                  refine rs_ildn wi_397_219 l1 ?_
                  refine rs_lld wi_397_220 l6 ?_
                  refine rs_ild wi_397_222 l4 ?_
                  refine rs_V wi_397_224 wc_397_555 rfl (dq_isa tf_174_0 wa_15_393) (Nat.le_trans (by decide) hF) (ml_le wm_393 (Nat.le_trans (by decide) hLo)) rfl (sp_393 hw (Nat.le_trans (by decide : 1 ≤ 4 - 1) (Nat.sub_le_sub_right hF 1)) (ml_sub wm_393 (Nat.le_trans (by decide : 22 ≤ 96 - 25) (Nat.sub_le_sub_right hLo 25))) (wp_bind h) (fun r18 h => rs_back0 ?_))
                  refine rs_ild wi_397_227 l4 ?_
                  refine rs_ifeq (tg := 233) wi_397_229 ⟨by decide, by decide⟩ (fun q => ?_) (fun q => ?_)
                  ·
                    have h := wp_pos h q
                    refine rs_aldn wi_397_233 l0 ?_
                    refine rs_ildn wi_397_234 l1 ?_
                    refine rs_aldn wi_397_235 l0 ?_
                    refine dq_gr wi_397_236 wf_397_218 tf_174_60 ?_
                    refine rs_ildn wi_397_239 l1 ?_
                    obtain ⟨g19, h⟩ := wp_gd h
                    refine dq_iald wi_397_240 t_222 g19 ?_
                    refine rs_pure wi_397_241 rfl ?_
                    refine rs_topi (v := 1) (by decide) ?_
                    refine rs_pure wi_397_242 rfl ?_
                    refine rs_V wi_397_243 wc_397_543 rfl (dq_isa tf_174_0 wa_15_392) (Nat.le_trans (by decide) hF) (ml_le wm_392 (Nat.le_trans (by decide) hLo)) rfl (sp_392 (Nat.le_trans (by decide : 0 ≤ 4 - 1) (Nat.sub_le_sub_right hF 1)) (ml_sub wm_392 (Nat.le_trans (by decide : 0 ≤ 96 - 22) (Nat.sub_le_sub_right hLo 22))) (wp_bind h) (fun v20 h => rs_back1 ?_))
                    refine dl_ist wi_397_246 rfl (fun lv l11 t21 => ?_)
                    have l0 := t21 _ _ (by decide) (Or.inl rfl) l0
                    have l5 := t21 _ _ (by decide) (Or.inl rfl) l5
                    have l8 := t21 _ _ (by decide) (Or.inl rfl) l8
                    have l9 := t21 _ _ (by decide) (Or.inl rfl) l9
                    refine rs_ild wi_397_248 l8 ?_
                    refine rs_iflt (tg := 321) wi_397_250 ⟨by decide, by decide⟩ (fun q => ?_) (fun q => ?_)
                    ·
                      have h := wp_pos h q
                      refine rs_aldn wi_397_321 l0 ?_
                      refine rs_pure wi_397_322 rfl ?_
                      refine rs_topi (v := 40) (by decide) ?_
                      refine rs_V wi_397_324 wc_397_483 rfl (dq_isa tf_174_0 wa_15_379) (Nat.le_trans (by decide) hF) (ml_le wm_379 (Nat.le_trans (by decide) hLo)) rfl (sp_379 hw (Nat.le_trans (by decide : 1 ≤ 4 - 1) (Nat.sub_le_sub_right hF 1)) (ml_sub wm_379 (Nat.le_trans (by decide : 21 ≤ 96 - 21) (Nat.sub_le_sub_right hLo 21))) (wp_bind h) (fun r22 h => rs_back1 ?_))
                      refine wp_jn (B := fun p23 : cS => ∀ lv, rx_ld lv 0 = some (.ref 174) → rx_ld lv 5 = some (.int v5) → rx_ld lv 9 = some (.int v11) → rx_ld lv 11 = some (.int v20) → rs (rt_P sc fm) 397 F Lo 338 lv [] (hq false p23 y w) Q) h (fun p23 h lv l0 l5 l9 l11 => ?_) (fun j338 hj338 h => ?_)
                      ·
                        refine rs_pure wi_397_338 rfl ?_
                        refine rs_topi (v := 0) (by decide) ?_
                        refine dl_ist wi_397_339 rfl (fun lv l12 t24 => ?_)
                        have l0 := t24 _ _ (by decide) (Or.inl rfl) l0
                        have l5 := t24 _ _ (by decide) (Or.inl rfl) l5
                        have l9 := t24 _ _ (by decide) (Or.inl rfl) l9
                        have l11 := t24 _ _ (by decide) (Or.inl rfl) l11
                        refine whl_ex (A := fun s25 : Int32 × cS => ∀ lv, rx_ld lv 0 = some (.ref 174) → rx_ld lv 5 = some (.int v5) → rx_ld lv 9 = some (.int v11) → rx_ld lv 11 = some (.int v20) → rx_ld lv 12 = some (.int s25.1) → rs (rt_P sc fm) 397 F Lo 341 lv [] (hq false s25.2 y w) Q) (B := (fun x49 : cS => ∀ lv, rs (rt_P sc fm) 397 F Lo 459 lv [] (hq false x49 y w) Q)) ?_ ?_ _ _ (wp_bind h) _ l0 l5 l9 l11 l12
                        · intro s25 h lv l0 l5 l9 l11 l12
                          refine rs_ild wi_397_341 l12 ?_
                          refine rs_aldn wi_397_343 l0 ?_
                          refine dq_gr wi_397_344 wf_397_122 tf_174_26 ?_
                          refine rs_ild wi_397_347 l9 ?_
                          obtain ⟨g26, h⟩ := wp_gd h
                          refine dq_iald wi_397_349 t_190 g26 ?_
                          refine rs_icge (tg := 459) wi_397_350 ⟨by decide, by decide⟩ (fun q => ?_) (fun q => ?_)
                          ·
                            have h := wp_pos h q
                            exact h _
                          ·
                            have h := wp_neg h q
                            refine rs_aldn wi_397_353 l0 ?_
                            refine dq_gi wi_397_354 wf_397_409 tf_174_13 ?_
                            refine rs_ifne (tg := 459) wi_397_357 ⟨by decide, by decide⟩ (fun q => ?_) (fun q => ?_)
                            ·
                              have h := wp_neg h q
                              exact h _
                            ·
                              have h := wp_pos h q
                              refine rs_aldn wi_397_360 l0 ?_
                              refine dq_gr wi_397_361 wf_397_131 tf_174_29 ?_
                              refine rs_pure wi_397_364 rfl ?_
                              refine rs_topi (v := 4) (by decide) ?_
                              refine rs_ild wi_397_365 l9 ?_
                              refine rs_pure wi_397_367 rfl ?_
                              refine rs_ild wi_397_368 l12 ?_
                              refine rs_pure wi_397_370 rfl ?_
                              obtain ⟨g27, h⟩ := wp_gd h
                              refine dq_zald wi_397_371 t_193 g27 ?_
                              obtain ⟨v29, e30, h⟩ := wp_lt h
                              refine rs_topi e30 ?_
                              refine dl_ist wi_397_372 rfl (fun lv l13 t28 => ?_)
                              have l0 := t28 _ _ (by decide) (Or.inl rfl) l0
                              have l5 := t28 _ _ (by decide) (Or.inl rfl) l5
                              have l9 := t28 _ _ (by decide) (Or.inl rfl) l9
                              have l11 := t28 _ _ (by decide) (Or.inl rfl) l11
                              have l12 := t28 _ _ (by decide) (Or.inl rfl) l12
                              refine rs_pure wi_397_374 rfl ?_
                              refine rs_topi (v := 0) (by decide) ?_
                              refine dl_ist wi_397_375 rfl (fun lv l14 t31 => ?_)
                              have l0 := t31 _ _ (by decide) (Or.inl rfl) l0
                              have l5 := t31 _ _ (by decide) (Or.inl rfl) l5
                              have l9 := t31 _ _ (by decide) (Or.inl rfl) l9
                              have l11 := t31 _ _ (by decide) (Or.inl rfl) l11
                              have l12 := t31 _ _ (by decide) (Or.inl rfl) l12
                              have l13 := t31 _ _ (by decide) (Or.inl rfl) l13
                              refine whl_ex (A := fun s32 : Int32 × Int32 => ∀ lv, rx_ld lv 0 = some (.ref 174) → rx_ld lv 5 = some (.int v5) → rx_ld lv 9 = some (.int v11) → rx_ld lv 11 = some (.int v20) → rx_ld lv 12 = some (.int s25.1) → rx_ld lv 13 = some (.int s32.1) → rx_ld lv 14 = some (.int s32.2) → rs (rt_P sc fm) 397 F Lo 377 lv [] (hq false s25.2 y w) Q) (B := (fun x42 : Int32 => ∀ lv, rx_ld lv 0 = some (.ref 174) → rx_ld lv 5 = some (.int v5) → rx_ld lv 9 = some (.int v11) → rx_ld lv 11 = some (.int v20) → rx_ld lv 12 = some (.int s25.1) → rx_ld lv 13 = some (.int x42) → rs (rt_P sc fm) 397 F Lo 435 lv [] (hq false s25.2 y w) Q)) ?_ ?_ _ _ (wp_bind h) _ l0 l5 l9 l11 l12 l13 l14
                              · intro s32 h lv l0 l5 l9 l11 l12 l13 l14
                                refine rs_ild wi_397_377 l14 ?_
                                refine rs_aldn wi_397_379 l0 ?_
                                refine dq_gr wi_397_380 wf_397_227 tf_174_63 ?_
                                refine rs_ild wi_397_383 l11 ?_
                                obtain ⟨g33, h⟩ := wp_gd h
                                refine dq_iald wi_397_385 t_225 g33 ?_
                                refine rs_icge (tg := 435) wi_397_386 ⟨by decide, by decide⟩ (fun q => ?_) (fun q => ?_)
                                ·
                                  have h := wp_pos h q
                                  exact h _ l0 l5 l9 l11 l12 l13
                                ·
                                  have h := wp_neg h q
                                  refine rs_ild wi_397_389 l13 ?_
                                  refine wp_jn (B := fun p34 : Int32 => ∀ lv, rx_ld lv 0 = some (.ref 174) → rx_ld lv 5 = some (.int v5) → rx_ld lv 9 = some (.int v11) → rx_ld lv 11 = some (.int v20) → rx_ld lv 12 = some (.int s25.1) → rx_ld lv 14 = some (.int s32.2) → rs (rt_P sc fm) 397 F Lo 427 lv [.int p34] (hq false s25.2 y w) Q) h (fun p34 h lv l0 l5 l9 l11 l12 l14 => ?_) (fun j427 hj427 h => ?_)
                                  ·
                                    refine dl_ist wi_397_427 rfl (fun lv l13 t35 => ?_)
                                    have l0 := t35 _ _ (by decide) (Or.inl rfl) l0
                                    have l5 := t35 _ _ (by decide) (Or.inl rfl) l5
                                    have l9 := t35 _ _ (by decide) (Or.inl rfl) l9
                                    have l11 := t35 _ _ (by decide) (Or.inl rfl) l11
                                    have l12 := t35 _ _ (by decide) (Or.inl rfl) l12
                                    have l14 := t35 _ _ (by decide) (Or.inl rfl) l14
                                    obtain ⟨v37, e38, h⟩ := wp_lt h
                                    refine dl_inc wi_397_429 l14 rfl e38 (fun lv l14 t36 => ?_)
                                    have l0 := t36 _ _ (by decide) (Or.inl rfl) l0
                                    have l5 := t36 _ _ (by decide) (Or.inl rfl) l5
                                    have l9 := t36 _ _ (by decide) (Or.inl rfl) l9
                                    have l11 := t36 _ _ (by decide) (Or.inl rfl) l11
                                    have l12 := t36 _ _ (by decide) (Or.inl rfl) l12
                                    have l13 := t36 _ _ (by decide) (Or.inl rfl) l13
                                    refine rs_goto (tg := 377) wi_397_432 ⟨by decide, by decide⟩ ?_
                                    exact h _ l0 l5 l9 l11 l12 l13 l14
                                  refine wp_jn (B := fun p39 : Unit => ∀ lv, rx_ld lv 0 = some (.ref 174) → rx_ld lv 5 = some (.int v5) → rx_ld lv 9 = some (.int v11) → rx_ld lv 11 = some (.int v20) → rx_ld lv 12 = some (.int s25.1) → rx_ld lv 14 = some (.int s32.2) → rs (rt_P sc fm) 397 F Lo 422 lv [] (hq false s25.2 y w) Q) h (fun p39 h lv l0 l5 l9 l11 l12 l14 => ?_) (fun j422 hj422 h => ?_)
                                  ·
                                    refine rs_pure wi_397_422 rfl ?_
                                    refine rs_topi (v := 1) (by decide) ?_
                                    refine rs_goto (tg := 427) wi_397_423 ⟨by decide, by decide⟩ ?_
                                    exact hj427 _ h _ l0 l5 l9 l11 l12 l14
                                  refine rs_ifne (tg := 422) wi_397_391 ⟨by decide, by decide⟩ (fun q => ?_) (fun q => ?_)
                                  ·
                                    have h := wp_neg h q
                                    exact hj422 _ h _ l0 l5 l9 l11 l12 l14
                                  ·
                                    have h := wp_pos h q
                                    refine rs_aldn wi_397_394 l0 ?_
                                    refine dq_gr wi_397_395 wf_397_231 tf_174_64 ?_
                                    refine rs_ild wi_397_398 l11 ?_
                                    refine rs_pure wi_397_400 rfl ?_
                                    refine rs_topi (v := 4) (by decide) ?_
                                    refine rs_pure wi_397_401 rfl ?_
                                    refine rs_ild wi_397_402 l14 ?_
                                    refine rs_pure wi_397_404 rfl ?_
                                    obtain ⟨g40, h⟩ := wp_gd h
                                    refine dq_lald wi_397_405 t_226 g40 ?_
                                    refine rs_aldn wi_397_406 l0 ?_
                                    refine dq_gr wi_397_407 wf_397_125 tf_174_27 ?_
                                    refine rs_pure wi_397_410 rfl ?_
                                    refine rs_topi (v := 4) (by decide) ?_
                                    refine rs_ild wi_397_411 l9 ?_
                                    refine rs_pure wi_397_413 rfl ?_
                                    refine rs_ild wi_397_414 l12 ?_
                                    refine rs_pure wi_397_416 rfl ?_
                                    obtain ⟨g41, h⟩ := wp_gd h
                                    refine dq_lald wi_397_417 t_191 g41 ?_
                                    refine rs_pure wi_397_418 rfl ?_
                                    refine rs_ifne (tg := 426) wi_397_419 ⟨by decide, by decide⟩ (fun q => ?_) (fun q => ?_)
                                    ·
                                      have h := wp_neg h q
                                      refine rs_pure wi_397_426 rfl ?_
                                      refine rs_topi (v := 0) (by decide) ?_
                                      exact hj427 _ h _ l0 l5 l9 l11 l12 l14
                                    ·
                                      have h := wp_pos h q
                                      exact hj422 _ h _ l0 l5 l9 l11 l12 l14
                              ·
                                intro x42 h lv l0 l5 l9 l11 l12 l13
                                refine rs_ild wi_397_435 l13 ?_
                                refine wp_jn (B := fun p43 : cS => ∀ lv, rx_ld lv 0 = some (.ref 174) → rx_ld lv 5 = some (.int v5) → rx_ld lv 9 = some (.int v11) → rx_ld lv 11 = some (.int v20) → rx_ld lv 12 = some (.int s25.1) → rs (rt_P sc fm) 397 F Lo 453 lv [] (hq false p43 y w) Q) h (fun p43 h lv l0 l5 l9 l11 l12 => ?_) (fun j453 hj453 h => ?_)
                                ·
                                  obtain ⟨v45, e46, h⟩ := wp_lt h
                                  refine dl_inc wi_397_453 l12 rfl e46 (fun lv l12 t44 => ?_)
                                  have l0 := t44 _ _ (by decide) (Or.inl rfl) l0
                                  have l5 := t44 _ _ (by decide) (Or.inl rfl) l5
                                  have l9 := t44 _ _ (by decide) (Or.inl rfl) l9
                                  have l11 := t44 _ _ (by decide) (Or.inl rfl) l11
                                  refine rs_goto (tg := 341) wi_397_456 ⟨by decide, by decide⟩ ?_
                                  exact h _ l0 l5 l9 l11 l12
                                refine rs_ifne (tg := 453) wi_397_437 ⟨by decide, by decide⟩ (fun q => ?_) (fun q => ?_)
                                ·
                                  have h := wp_neg h q
                                  exact hj453 _ h _ l0 l5 l9 l11 l12
                                ·
                                  have h := wp_pos h q
                                  refine rs_aldn wi_397_440 l0 ?_
                                  refine rs_pure wi_397_441 rfl ?_
                                  refine rs_topi (v := 7) (by decide) ?_
                                  refine rs_aldn wi_397_443 l0 ?_
                                  refine dq_gr wi_397_444 wf_397_87 tf_174_9 ?_
                                  refine rs_ild wi_397_447 l5 ?_
                                  obtain ⟨g47, h⟩ := wp_gd h
                                  refine dq_iald wi_397_449 t_179 g47 ?_
                                  refine rs_V wi_397_450 wc_397_432 rfl (dq_isa tf_174_0 wa_15_97) (Nat.le_trans (by decide) hF) (ml_le wm_97 (Nat.le_trans (by decide) hLo)) rfl (sp_97 hw (Nat.le_trans (by decide : 0 ≤ 4 - 1) (Nat.sub_le_sub_right hF 1)) (ml_sub wm_97 (Nat.le_trans (by decide : 0 ≤ 96 - 22) (Nat.sub_le_sub_right hLo 22))) (wp_bind h) (fun r48 h => rs_back0 ?_))
                                  exact hj453 _ h _ l0 l5 l9 l11 l12
                        ·
                          intro x49 h lv
                          exact rs_vret wi_397_459 wr_397 (hQ x49 h)
                      refine rs_ifeq (tg := 338) wi_397_327 ⟨by decide, by decide⟩ (fun q => ?_) (fun q => ?_)
                      ·
                        have h := wp_pos h q
                        exact hj338 _ h _ l0 l5 l9 l11
                      ·
                        have h := wp_neg h q
                        refine rs_aldn wi_397_330 l0 ?_
                        refine rs_ild wi_397_331 l11 ?_
                        refine rs_ild wi_397_333 l9 ?_
                        refine rs_V wi_397_335 wc_397_565 rfl (dq_isa tf_174_0 wa_15_398) (Nat.le_trans (by decide) hF) (ml_le wm_398 (Nat.le_trans (by decide) hLo)) rfl (sp_398 hw (Nat.le_trans (by decide : 3 ≤ 4 - 1) (Nat.sub_le_sub_right hF 1)) (ml_sub wm_398 (Nat.le_trans (by decide : 68 ≤ 96 - 28) (Nat.sub_le_sub_right hLo 28))) (wp_bind h) (fun r50 h => rs_back0 ?_))
                        exact hj338 _ h _ l0 l5 l9 l11
                    ·
                      have h := wp_neg h q
                      refine rs_aldn wi_397_253 l0 ?_
                      refine rs_pure wi_397_254 rfl ?_
                      refine rs_topi (v := 46) (by decide) ?_
                      refine rs_V wi_397_256 wc_397_521 rfl (dq_isa tf_174_0 wa_15_380) (Nat.le_trans (by decide) hF) (ml_le wm_380 (Nat.le_trans (by decide) hLo)) rfl (sp_380 hw (Nat.le_trans (by decide : 2 ≤ 4 - 1) (Nat.sub_le_sub_right hF 1)) (ml_sub wm_380 (Nat.le_trans (by decide : 42 ≤ 96 - 21) (Nat.sub_le_sub_right hLo 21))) (wp_bind h) (fun r51 h => rs_back0 ?_))
                      refine rs_aldn wi_397_259 l0 ?_
                      refine dq_gi wi_397_260 wf_397_471 tf_174_67 ?_
                      obtain ⟨v53, e54, h⟩ := wp_lt h
                      refine rs_topi e54 ?_
                      refine dl_ist wi_397_263 rfl (fun lv l12 t52 => ?_)
                      have l0 := t52 _ _ (by decide) (Or.inl rfl) l0
                      have l8 := t52 _ _ (by decide) (Or.inl rfl) l8
                      have l11 := t52 _ _ (by decide) (Or.inl rfl) l11
                      refine rs_aldn wi_397_265 l0 ?_
                      refine rs_V wi_397_266 wc_397_505 rfl (dq_isa tf_174_0 wa_15_381) (Nat.le_trans (by decide) hF) (ml_le wm_381 (Nat.le_trans (by decide) hLo)) rfl (sp_381 hw (Nat.le_trans (by decide : 2 ≤ 4 - 1) (Nat.sub_le_sub_right hF 1)) (ml_sub wm_381 (Nat.le_trans (by decide : 42 ≤ 96 - 20) (Nat.sub_le_sub_right hLo 20))) (wp_bind h) (fun r55 h => rs_back1 ?_))
                      refine dl_lst wi_397_269 rfl (fun lv l13 t56 => ?_)
                      have l0 := t56 _ _ (by decide) (by decide) (Or.inl rfl) l0
                      have l8 := t56 _ _ (by decide) (by decide) (Or.inl rfl) l8
                      have l11 := t56 _ _ (by decide) (by decide) (Or.inl rfl) l11
                      have l12 := t56 _ _ (by decide) (by decide) (Or.inl rfl) l12
                      refine rs_aldn wi_397_271 l0 ?_
                      refine dq_gi wi_397_272 wf_397_409 tf_174_13 ?_
                      refine wp_jn (B := fun p57 : cS => ∀ lv, rx_ld lv 0 = some (.ref 174) → rx_ld lv 11 = some (.int v20) → rx_ld lv 13 = some (.long r55.1) → rs (rt_P sc fm) 397 F Lo 301 lv [] (hq false p57 y w) Q) h (fun p57 h lv l0 l11 l13 => ?_) (fun j301 hj301 h => ?_)
                      ·
                        refine rs_aldn wi_397_301 l0 ?_
                        refine dq_gi wi_397_302 wf_397_409 tf_174_13 ?_
                        refine wp_jn (B := fun p58 : cS => ∀ lv, rs (rt_P sc fm) 397 F Lo 320 lv [] (hq false p58 y w) Q) h (fun p58 h lv => ?_) (fun j320 hj320 h => ?_)
                        ·
                          exact rs_vret wi_397_320 wr_397 (hQ p58 h)
                        refine rs_ifne (tg := 320) wi_397_305 ⟨by decide, by decide⟩ (fun q => ?_) (fun q => ?_)
                        ·
                          have h := wp_neg h q
                          exact hj320 _ h _
                        ·
                          have h := wp_pos h q
                          refine rs_aldn wi_397_308 l0 ?_
                          refine rs_ild wi_397_309 l11 ?_
                          refine rs_ldcl wi_397_311 wk_397_559 ?_
                          refine rs_pure wi_397_314 rfl ?_
                          refine rs_topi (v := 3) (by decide) ?_
                          refine rs_lld wi_397_315 l13 ?_
                          refine rs_V wi_397_317 wc_397_561 rfl (dq_isa tf_174_0 wa_15_394) (Nat.le_trans (by decide) hF) (ml_le wm_394 (Nat.le_trans (by decide) hLo)) rfl (sp_394 hw (Nat.le_trans (by decide : 0 ≤ 4 - 1) (Nat.sub_le_sub_right hF 1)) (ml_sub wm_394 (Nat.le_trans (by decide : 0 ≤ 96 - 27) (Nat.sub_le_sub_right hLo 27))) (wp_bind h) (fun r59 h => rs_back0 ?_))
                          exact hj320 _ h _
                      refine rs_ifne (tg := 301) wi_397_275 ⟨by decide, by decide⟩ (fun q => ?_) (fun q => ?_)
                      ·
                        have h := wp_neg h q
                        exact hj301 _ h _ l0 l11 l13
                      ·
                        have h := wp_pos h q
                        refine rs_aldn wi_397_278 l0 ?_
                        refine rs_ild wi_397_279 l8 ?_
                        refine rs_lld wi_397_281 l13 ?_
                        refine rs_V wi_397_283 wc_397_513 rfl (dq_isa tf_174_0 wa_15_377) (Nat.le_trans (by decide) hF) (ml_le wm_377 (Nat.le_trans (by decide) hLo)) rfl (sp_377 hw (Nat.le_trans (by decide : 0 ≤ 4 - 1) (Nat.sub_le_sub_right hF 1)) (ml_sub wm_377 (Nat.le_trans (by decide : 0 ≤ 96 - 24) (Nat.sub_le_sub_right hLo 24))) (wp_bind h) (fun v60 h => rs_back1 ?_))
                        refine rs_ifge (tg := 301) wi_397_286 ⟨by decide, by decide⟩ (fun q => ?_) (fun q => ?_)
                        ·
                          have h := wp_pos h q
                          exact hj301 _ h _ l0 l11 l13
                        ·
                          have h := wp_neg h q
                          refine rs_aldn wi_397_289 l0 ?_
                          refine rs_pure wi_397_290 rfl ?_
                          refine rs_topi (v := 5) (by decide) ?_
                          refine rs_aldn wi_397_291 l0 ?_
                          refine dq_gr wi_397_292 wf_397_87 tf_174_9 ?_
                          refine rs_ild wi_397_295 l12 ?_
                          obtain ⟨g61, h⟩ := wp_gd h
                          refine dq_iald wi_397_297 t_179 g61 ?_
                          refine rs_V wi_397_298 wc_397_432 rfl (dq_isa tf_174_0 wa_15_97) (Nat.le_trans (by decide) hF) (ml_le wm_97 (Nat.le_trans (by decide) hLo)) rfl (sp_97 hw (Nat.le_trans (by decide : 0 ≤ 4 - 1) (Nat.sub_le_sub_right hF 1)) (ml_sub wm_97 (Nat.le_trans (by decide : 0 ≤ 96 - 22) (Nat.sub_le_sub_right hLo 22))) (wp_bind h) (fun r62 h => rs_back0 ?_))
                          exact hj301 _ h _ l0 l11 l13
                  ·
                    have h := wp_neg h q
                    exact rs_vret wi_397_232 wr_397 (hQ r18 h)
                ·
                  have h := wp_neg h q
                  exact rs_vret wi_397_217 wr_397 (hQ p17 h)
              refine rs_ifne (tg := 210) wi_397_194 ⟨by decide, by decide⟩ (fun q => ?_) (fun q => ?_)
              ·
                have h := wp_neg h q
                exact hj210 _ h _ l0 l1 l4 l5 l6 l8 l9
              ·
                have h := wp_pos h q
                refine rs_aldn wi_397_197 l0 ?_
                refine rs_pure wi_397_198 rfl ?_
                refine rs_topi (v := 7) (by decide) ?_
                refine rs_aldn wi_397_200 l0 ?_
                refine dq_gr wi_397_201 wf_397_87 tf_174_9 ?_
                refine rs_ild wi_397_204 l5 ?_
                obtain ⟨g63, h⟩ := wp_gd h
                refine dq_iald wi_397_206 t_179 g63 ?_
                refine rs_V wi_397_207 wc_397_432 rfl (dq_isa tf_174_0 wa_15_97) (Nat.le_trans (by decide) hF) (ml_le wm_97 (Nat.le_trans (by decide) hLo)) rfl (sp_97 hw (Nat.le_trans (by decide : 0 ≤ 4 - 1) (Nat.sub_le_sub_right hF 1)) (ml_sub wm_97 (Nat.le_trans (by decide : 0 ≤ 96 - 22) (Nat.sub_le_sub_right hLo 22))) (wp_bind h) (fun r64 h => rs_back0 ?_))
                exact hj210 _ h _ l0 l1 l4 l5 l6 l8 l9
            refine rs_iflt (tg := 161) wi_397_145 ⟨by decide, by decide⟩ (fun q => ?_) (fun q => ?_)
            ·
              have h := wp_pos h q
              refine rs_ildn wi_397_161 l2 ?_
              refine rs_pure wi_397_162 rfl ?_
              refine rs_topi (v := 16) (by decide) ?_
              refine wp_jn (B := fun p65 : Unit => ∀ lv, rx_ld lv 0 = some (.ref 174) → rx_ld lv 1 = some (.int a1) → rx_ld lv 4 = some (.int p3.1) → rx_ld lv 5 = some (.int v5) → rx_ld lv 6 = some (.long r7.1) → rx_ld lv 8 = some (.int v9) → rx_ld lv 9 = some (.int v11) → rs (rt_P sc fm) 397 F Lo 189 lv [] (hq false p14 y w) Q) h (fun p65 h lv l0 l1 l4 l5 l6 l8 l9 => ?_) (fun j189 hj189 h => ?_)
              ·
                refine rs_pure wi_397_189 rfl ?_
                refine rs_topi (v := 0) (by decide) ?_
                exact hj190 _ h _ l0 l1 l4 l5 l6 l8 l9
              refine rs_iceq (tg := 189) wi_397_164 ⟨by decide, by decide⟩ (fun q => ?_) (fun q => ?_)
              ·
                have h := wp_pos h q
                exact hj189 _ h _ l0 l1 l4 l5 l6 l8 l9
              ·
                have h := wp_neg h q
                refine rs_ildn wi_397_167 l2 ?_
                refine rs_pure wi_397_168 rfl ?_
                refine rs_topi (v := 15) (by decide) ?_
                refine wp_jn (B := fun p66 : Unit => ∀ lv, rx_ld lv 0 = some (.ref 174) → rx_ld lv 1 = some (.int a1) → rx_ld lv 4 = some (.int p3.1) → rx_ld lv 5 = some (.int v5) → rx_ld lv 6 = some (.long r7.1) → rx_ld lv 8 = some (.int v9) → rx_ld lv 9 = some (.int v11) → rs (rt_P sc fm) 397 F Lo 185 lv [] (hq false p14 y w) Q) h (fun p66 h lv l0 l1 l4 l5 l6 l8 l9 => ?_) (fun j185 hj185 h => ?_)
                ·
                  refine rs_pure wi_397_185 rfl ?_
                  refine rs_topi (v := 1) (by decide) ?_
                  refine rs_goto (tg := 190) wi_397_186 ⟨by decide, by decide⟩ ?_
                  exact hj190 _ h _ l0 l1 l4 l5 l6 l8 l9
                refine rs_iceq (tg := 185) wi_397_170 ⟨by decide, by decide⟩ (fun q => ?_) (fun q => ?_)
                ·
                  have h := wp_pos h q
                  exact hj185 _ h _ l0 l1 l4 l5 l6 l8 l9
                ·
                  have h := wp_neg h q
                  refine rs_aldn wi_397_173 l0 ?_
                  refine dq_gr wi_397_174 wf_397_137 tf_174_31 ?_
                  refine rs_ild wi_397_177 l9 ?_
                  obtain ⟨g67, h⟩ := wp_gd h
                  refine dq_iald wi_397_179 t_195 g67 ?_
                  refine rs_ildn wi_397_180 l2 ?_
                  refine rs_pure wi_397_181 rfl ?_
                  refine rs_ifeq (tg := 189) wi_397_182 ⟨by decide, by decide⟩ (fun q => ?_) (fun q => ?_)
                  ·
                    have h := wp_pos h q
                    exact hj189 _ h _ l0 l1 l4 l5 l6 l8 l9
                  ·
                    have h := wp_neg h q
                    exact hj185 _ h _ l0 l1 l4 l5 l6 l8 l9
            ·
              have h := wp_neg h q
              refine rs_ildn wi_397_148 l2 ?_
              refine rs_pure wi_397_149 rfl ?_
              refine rs_topi (v := 1) (by decide) ?_
              refine rs_iceq (tg := 157) wi_397_150 ⟨by decide, by decide⟩ (fun q => ?_) (fun q => ?_)
              ·
                have h := wp_pos h q
                refine rs_pure wi_397_157 rfl ?_
                refine rs_topi (v := 0) (by decide) ?_
                refine rs_goto (tg := 190) wi_397_158 ⟨by decide, by decide⟩ ?_
                exact hj190 _ h _ l0 l1 l4 l5 l6 l8 l9
              ·
                have h := wp_neg h q
                refine rs_pure wi_397_153 rfl ?_
                refine rs_topi (v := 1) (by decide) ?_
                refine rs_goto (tg := 190) wi_397_154 ⟨by decide, by decide⟩ ?_
                exact hj190 _ h _ l0 l1 l4 l5 l6 l8 l9
          refine wp_jn (B := fun p68 : Unit => ∀ lv, rx_ld lv 0 = some (.ref 174) → rx_ld lv 1 = some (.int a1) → rx_ld lv 2 = some (.int a2) → rx_ld lv 4 = some (.int p3.1) → rx_ld lv 5 = some (.int v5) → rx_ld lv 6 = some (.long r7.1) → rx_ld lv 8 = some (.int v9) → rx_ld lv 9 = some (.int v11) → rs (rt_P sc fm) 397 F Lo 115 lv [] (hq false p13 y w) Q) h (fun p68 h lv l0 l1 l2 l4 l5 l6 l8 l9 => ?_) (fun j115 hj115 h => ?_)
          ·
            refine rs_aldn wi_397_115 l0 ?_
            refine rs_ildn wi_397_116 l1 ?_
            refine rs_aldn wi_397_117 l0 ?_
            refine dq_gr wi_397_118 wf_397_218 tf_174_60 ?_
            refine rs_ildn wi_397_121 l1 ?_
            obtain ⟨g69, h⟩ := wp_gd h
            refine dq_iald wi_397_122 t_222 g69 ?_
            refine rs_lld wi_397_123 l6 ?_
            refine rs_V wi_397_125 wc_397_551 rfl (dq_isa tf_174_0 wa_15_395) (Nat.le_trans (by decide) hF) (ml_le wm_395 (Nat.le_trans (by decide) hLo)) rfl (sp_395 hw (Nat.le_trans (by decide : 1 ≤ 4 - 1) (Nat.sub_le_sub_right hF 1)) (ml_sub wm_395 (Nat.le_trans (by decide : 22 ≤ 96 - 26) (Nat.sub_le_sub_right hLo 26))) (wp_bind h) (fun v70 h => rs_back1 ?_))
            refine rs_ifeq (tg := 143) wi_397_128 ⟨by decide, by decide⟩ (fun q => ?_) (fun q => ?_)
            ·
              have h := wp_pos h q
              exact hj143 _ h _ l0 l1 l2 l4 l5 l6 l8 l9
            ·
              have h := wp_neg h q
              refine rs_aldn wi_397_131 l0 ?_
              refine rs_pure wi_397_132 rfl ?_
              refine rs_topi (v := 3) (by decide) ?_
              refine rs_aldn wi_397_133 l0 ?_
              refine dq_gr wi_397_134 wf_397_87 tf_174_9 ?_
              refine rs_ild wi_397_137 l5 ?_
              obtain ⟨g71, h⟩ := wp_gd h
              refine dq_iald wi_397_139 t_179 g71 ?_
              refine rs_V wi_397_140 wc_397_432 rfl (dq_isa tf_174_0 wa_15_97) (Nat.le_trans (by decide) hF) (ml_le wm_97 (Nat.le_trans (by decide) hLo)) rfl (sp_97 hw (Nat.le_trans (by decide : 0 ≤ 4 - 1) (Nat.sub_le_sub_right hF 1)) (ml_sub wm_97 (Nat.le_trans (by decide : 0 ≤ 96 - 22) (Nat.sub_le_sub_right hLo 22))) (wp_bind h) (fun r72 h => rs_back0 ?_))
              exact hj143 _ h _ l0 l1 l2 l4 l5 l6 l8 l9
          refine rs_ifge (tg := 115) wi_397_102 ⟨by decide, by decide⟩ (fun q => ?_) (fun q => ?_)
          ·
            have h := wp_pos h q
            exact hj115 _ h _ l0 l1 l2 l4 l5 l6 l8 l9
          ·
            have h := wp_neg h q
            refine rs_aldn wi_397_105 l0 ?_
            refine dq_gr wi_397_106 wf_397_143 tf_174_33 ?_
            refine rs_ild wi_397_109 l9 ?_
            obtain ⟨g73, h⟩ := wp_gd h
            refine dq_zald wi_397_111 t_197 g73 ?_
            refine rs_ifne (tg := 143) wi_397_112 ⟨by decide, by decide⟩ (fun q => ?_) (fun q => ?_)
            ·
              have h := wp_neg h q
              exact hj143 _ h _ l0 l1 l2 l4 l5 l6 l8 l9
            ·
              have h := wp_pos h q
              exact hj115 _ h _ l0 l1 l2 l4 l5 l6 l8 l9
        ·
          have h := wp_neg h q
          exact rs_vret wi_397_99 wr_397 (hQ p13 h)
      refine rs_ifge (tg := 92) wi_397_72 ⟨by decide, by decide⟩ (fun q => ?_) (fun q => ?_)
      ·
        have h := wp_pos h q
        exact hj92 _ h _ l0 l1 l2 l4 l5 l6 l8 l9
      ·
        have h := wp_neg h q
        refine rs_ild wi_397_75 l9 ?_
        refine rs_ifge (tg := 92) wi_397_77 ⟨by decide, by decide⟩ (fun q => ?_) (fun q => ?_)
        ·
          have h := wp_pos h q
          exact hj92 _ h _ l0 l1 l2 l4 l5 l6 l8 l9
        ·
          have h := wp_neg h q
          refine rs_aldn wi_397_80 l0 ?_
          refine rs_pure wi_397_81 rfl ?_
          refine rs_topi (v := 5) (by decide) ?_
          refine rs_aldn wi_397_82 l0 ?_
          refine dq_gr wi_397_83 wf_397_87 tf_174_9 ?_
          refine rs_ild wi_397_86 l5 ?_
          obtain ⟨g74, h⟩ := wp_gd h
          refine dq_iald wi_397_88 t_179 g74 ?_
          refine rs_V wi_397_89 wc_397_432 rfl (dq_isa tf_174_0 wa_15_97) (Nat.le_trans (by decide) hF) (ml_le wm_97 (Nat.le_trans (by decide) hLo)) rfl (sp_97 hw (Nat.le_trans (by decide : 0 ≤ 4 - 1) (Nat.sub_le_sub_right hF 1)) (ml_sub wm_97 (Nat.le_trans (by decide : 0 ≤ 96 - 22) (Nat.sub_le_sub_right hLo 22))) (wp_bind h) (fun r75 h => rs_back0 ?_))
          exact hj92 _ h _ l0 l1 l2 l4 l5 l6 l8 l9
    ·
      have h := wp_neg h q
      exact rs_vret wi_397_53 wr_397 (hQ r7.2 h)
  refine rs_ifeq (tg := 34) wi_397_9 ⟨by decide, by decide⟩ (fun q => ?_) (fun q => ?_)
  ·
    have h := wp_pos h q
    exact hj34 _ h _ l0 l1 l2 l4
  ·
    have h := wp_neg h q
    refine rs_ildn wi_397_12 l3 ?_
    refine rs_ifne (tg := 21) wi_397_13 ⟨by decide, by decide⟩ (fun q => ?_) (fun q => ?_)
    ·
      have h := wp_neg h q
      refine rs_pure wi_397_21 rfl ?_
      refine rs_topi (v := 1) (by decide) ?_
      refine dl_ist wi_397_22 rfl (fun lv l4 t76 => ?_)
      have l0 := t76 _ _ (by decide) (Or.inl rfl) l0
      have l1 := t76 _ _ (by decide) (Or.inl rfl) l1
      have l2 := t76 _ _ (by decide) (Or.inl rfl) l2
      refine rs_aldn wi_397_24 l0 ?_
      refine rs_pure wi_397_25 rfl ?_
      refine dq_gi wi_397_26 wf_397_471 tf_174_67 ?_
      refine rs_pure wi_397_29 rfl ?_
      refine rs_topi (v := 1) (by decide) ?_
      refine rs_pure wi_397_30 rfl ?_
      obtain ⟨c77, e78, h⟩ := wp_lt h
      refine dq_pi wi_397_31 wp_397_471 tf_174_67 rfl rfl e78 ?_
      exact hj34 _ h _ l0 l1 l2 l4
    ·
      have h := wp_pos h q
      refine rs_aldn wi_397_16 l0 ?_
      refine rs_V wi_397_17 wc_397_480 rfl (dq_isa tf_174_0 wa_15_103) (Nat.le_trans (by decide) hF) (ml_le wm_103 (Nat.le_trans (by decide) hLo)) rfl (sp_103 hw (Nat.le_trans (by decide : 1 ≤ 4 - 1) (Nat.sub_le_sub_right hF 1)) (ml_sub wm_103 (Nat.le_trans (by decide : 22 ≤ 96 - 20) (Nat.sub_le_sub_right hLo 20))) (wp_bind h) (fun r79 h => rs_back0 ?_))
      exact rs_vret wi_397_20 wr_397 (hQ r79 h)
theorem wa_15_397 : rz_cn 15 (rx_yn (rt_P sc fm) 397).cls = true := (by decide +kernel : rz_cn 15 (rt_yn 397).cls = true)
theorem wc_396_432 : rx_ct (rt_P sc fm) 396 432 = some (0, 97, 2) := (by decide +kernel : rt_ct 396 432 = some (0, 97, 2))
theorem wc_396_477 : rx_ct (rt_P sc fm) 396 477 = some (0, 101, 1) := (by decide +kernel : rt_ct 396 477 = some (0, 101, 1))
theorem wc_396_480 : rx_ct (rt_P sc fm) 396 480 = some (0, 103, 0) := (by decide +kernel : rt_ct 396 480 = some (0, 103, 0))
theorem wc_396_547 : rx_ct (rt_P sc fm) 396 547 = some (0, 397, 3) := (by decide +kernel : rt_ct 396 547 = some (0, 397, 3))
theorem wf_396_218 : rx_ft (rt_P sc fm) 396 218 = some (15, 60) := (by decide +kernel : rt_ft 396 218 = some (15, 60))
theorem wf_396_409 : rx_ft (rt_P sc fm) 396 409 = some (15, 13) := (by decide +kernel : rt_ft 396 409 = some (15, 13))
theorem wf_396_471 : rx_ft (rt_P sc fm) 396 471 = some (15, 67) := (by decide +kernel : rt_ft 396 471 = some (15, 67))
theorem wf_396_87 : rx_ft (rt_P sc fm) 396 87 = some (15, 9) := (by decide +kernel : rt_ft 396 87 = some (15, 9))
theorem wi_396_0 : ri (rt_P sc fm) 396 0 (.aload_n 0) (1) := ri_of (by decide +kernel) rfl
theorem wi_396_1 : ri (rt_P sc fm) 396 1 (.getfield 218) (4) := ri_of (by decide +kernel) rfl
theorem wi_396_101 : ri (rt_P sc fm) 396 101 (.return_) (102) := ri_of (by decide +kernel) rfl
theorem wi_396_12 : ri (rt_P sc fm) 396 12 (.aload_n 0) (13) := ri_of (by decide +kernel) rfl
theorem wi_396_13 : ri (rt_P sc fm) 396 13 (.getfield 409) (16) := ri_of (by decide +kernel) rfl
theorem wi_396_16 : ri (rt_P sc fm) 396 16 (.ifCond .ne 16) (19) := ri_of (by decide +kernel) rfl
theorem wi_396_19 : ri (rt_P sc fm) 396 19 (.aload_n 0) (20) := ri_of (by decide +kernel) rfl
theorem wi_396_20 : ri (rt_P sc fm) 396 20 (.bipush 64) (22) := ri_of (by decide +kernel) rfl
theorem wi_396_22 : ri (rt_P sc fm) 396 22 (.invokevirtual 477) (25) := ri_of (by decide +kernel) rfl
theorem wi_396_25 : ri (rt_P sc fm) 396 25 (.ifCond .ne 7) (28) := ri_of (by decide +kernel) rfl
theorem wi_396_28 : ri (rt_P sc fm) 396 28 (.aload_n 0) (29) := ri_of (by decide +kernel) rfl
theorem wi_396_29 : ri (rt_P sc fm) 396 29 (.invokevirtual 480) (32) := ri_of (by decide +kernel) rfl
theorem wi_396_32 : ri (rt_P sc fm) 396 32 (.aload_n 0) (33) := ri_of (by decide +kernel) rfl
theorem wi_396_33 : ri (rt_P sc fm) 396 33 (.getfield 409) (36) := ri_of (by decide +kernel) rfl
theorem wi_396_36 : ri (rt_P sc fm) 396 36 (.ifCond .ne 65) (39) := ri_of (by decide +kernel) rfl
theorem wi_396_39 : ri (rt_P sc fm) 396 39 (.aload_n 0) (40) := ri_of (by decide +kernel) rfl
theorem wi_396_4 : ri (rt_P sc fm) 396 4 (.iload_n 1) (5) := ri_of (by decide +kernel) rfl
theorem wi_396_40 : ri (rt_P sc fm) 396 40 (.bipush 64) (42) := ri_of (by decide +kernel) rfl
theorem wi_396_42 : ri (rt_P sc fm) 396 42 (.invokevirtual 477) (45) := ri_of (by decide +kernel) rfl
theorem wi_396_45 : ri (rt_P sc fm) 396 45 (.ifCond .eq 56) (48) := ri_of (by decide +kernel) rfl
theorem wi_396_48 : ri (rt_P sc fm) 396 48 (.aload_n 0) (49) := ri_of (by decide +kernel) rfl
theorem wi_396_49 : ri (rt_P sc fm) 396 49 (.getfield 218) (52) := ri_of (by decide +kernel) rfl
theorem wi_396_5 : ri (rt_P sc fm) 396 5 (.iconst 0) (6) := ri_of (by decide +kernel) rfl
theorem wi_396_52 : ri (rt_P sc fm) 396 52 (.iload_n 1) (53) := ri_of (by decide +kernel) rfl
theorem wi_396_53 : ri (rt_P sc fm) 396 53 (.iaload) (54) := ri_of (by decide +kernel) rfl
theorem wi_396_54 : ri (rt_P sc fm) 396 54 (.bipush 20) (56) := ri_of (by decide +kernel) rfl
theorem wi_396_56 : ri (rt_P sc fm) 396 56 (.if_icmp .ne 18) (59) := ri_of (by decide +kernel) rfl
theorem wi_396_59 : ri (rt_P sc fm) 396 59 (.aload_n 0) (60) := ri_of (by decide +kernel) rfl
theorem wi_396_6 : ri (rt_P sc fm) 396 6 (.iastore) (7) := ri_of (by decide +kernel) rfl
theorem wi_396_60 : ri (rt_P sc fm) 396 60 (.bipush 6) (62) := ri_of (by decide +kernel) rfl
theorem wi_396_62 : ri (rt_P sc fm) 396 62 (.aload_n 0) (63) := ri_of (by decide +kernel) rfl
theorem wi_396_63 : ri (rt_P sc fm) 396 63 (.getfield 87) (66) := ri_of (by decide +kernel) rfl
theorem wi_396_66 : ri (rt_P sc fm) 396 66 (.aload_n 0) (67) := ri_of (by decide +kernel) rfl
theorem wi_396_67 : ri (rt_P sc fm) 396 67 (.getfield 471) (70) := ri_of (by decide +kernel) rfl
theorem wi_396_7 : ri (rt_P sc fm) 396 7 (.iload 4) (9) := ri_of (by decide +kernel) rfl
theorem wi_396_70 : ri (rt_P sc fm) 396 70 (.iaload) (71) := ri_of (by decide +kernel) rfl
theorem wi_396_71 : ri (rt_P sc fm) 396 71 (.invokevirtual 432) (74) := ri_of (by decide +kernel) rfl
theorem wi_396_74 : ri (rt_P sc fm) 396 74 (.aload_n 0) (75) := ri_of (by decide +kernel) rfl
theorem wi_396_75 : ri (rt_P sc fm) 396 75 (.dup) (76) := ri_of (by decide +kernel) rfl
theorem wi_396_76 : ri (rt_P sc fm) 396 76 (.getfield 471) (79) := ri_of (by decide +kernel) rfl
theorem wi_396_79 : ri (rt_P sc fm) 396 79 (.iconst 1) (80) := ri_of (by decide +kernel) rfl
theorem wi_396_80 : ri (rt_P sc fm) 396 80 (.iadd) (81) := ri_of (by decide +kernel) rfl
theorem wi_396_81 : ri (rt_P sc fm) 396 81 (.putfield 471) (84) := ri_of (by decide +kernel) rfl
theorem wi_396_84 : ri (rt_P sc fm) 396 84 (.aload_n 0) (85) := ri_of (by decide +kernel) rfl
theorem wi_396_85 : ri (rt_P sc fm) 396 85 (.getfield 409) (88) := ri_of (by decide +kernel) rfl
theorem wi_396_88 : ri (rt_P sc fm) 396 88 (.ifCond .ne (-56)) (91) := ri_of (by decide +kernel) rfl
theorem wi_396_9 : ri (rt_P sc fm) 396 9 (.ifCond .eq 23) (12) := ri_of (by decide +kernel) rfl
theorem wi_396_91 : ri (rt_P sc fm) 396 91 (.aload_n 0) (92) := ri_of (by decide +kernel) rfl
theorem wi_396_92 : ri (rt_P sc fm) 396 92 (.iload_n 1) (93) := ri_of (by decide +kernel) rfl
theorem wi_396_93 : ri (rt_P sc fm) 396 93 (.iload_n 2) (94) := ri_of (by decide +kernel) rfl
theorem wi_396_94 : ri (rt_P sc fm) 396 94 (.iload_n 3) (95) := ri_of (by decide +kernel) rfl
theorem wi_396_95 : ri (rt_P sc fm) 396 95 (.invokevirtual 547) (98) := ri_of (by decide +kernel) rfl
theorem wi_396_98 : ri (rt_P sc fm) 396 98 (.goto (-66)) (101) := ri_of (by decide +kernel) rfl
theorem wm_397 : rx_ml (rt_P sc fm) 397 = 15 := (by decide +kernel : rt_ml 397 = 15)
theorem wp_396_471 : rx_pt (rt_P sc fm) 396 471 = some (15, 67, .int) := (by decide +kernel : rt_pt 396 471 = some (15, 67, .int))
theorem wr_396 : rx_rt (rt_P sc fm) 396 = none := (by decide +kernel : rt_rt 396 = none)
/-- MarkHouseModel.readMarks(IIZZ)V -/
def d_396 (n : Nat) (a1 : Int32) (a2 : Int32) (a3 : Int32) (a4 : Int32) (c : cS) : Option (cS) :=
  if ib a1 1219 then
  lt (pI c 222 (ix a1) 0) (fun c2 =>
  jn (fun p4 : cS =>
    Option.bind (whl (R := (cS)) (fun s5 : cS =>
      if (s5.1 174 13) = 0 then
        Option.bind (d_101 n 64 s5) (fun v6 =>
        if v6 = 0 then
          some (.inr s5)
        else
          if ib a1 1219 then
          jn (fun p8 : cS =>
            lt (pI p8 174 67 ((p8.1 174 67) + 1)) (fun c9 =>
            if (c9.1 174 13) = 0 then
              Option.bind (d_397 n a1 a2 a3 c9) (fun r11 =>
              some (.inl r11))
            else
              some (.inl c9)))
          (fun j74 =>
          if (s5.1 222 (ix a1)) = 20 then
            if ib (s5.1 174 67) 4001 then
            Option.bind (d_97 n 6 (s5.1 179 (ix (s5.1 174 67))) s5) (fun r13 =>
            j74 r13)
            else none
          else
            j74 s5)
          else none)
      else
        some (.inr s5)) n p4)
    (fun x14 : cS =>
      some x14))
  (fun j32 =>
  if a4 = 0 then
    j32 c2
  else
    if (c2.1 174 13) = 0 then
      Option.bind (d_101 n 64 c2) (fun v15 =>
      if v15 = 0 then
        Option.bind (d_103 n c2) (fun r16 =>
        j32 r16)
      else
        j32 c2)
    else
      j32 c2))
  else none
set_option maxRecDepth 100000 in
set_option maxHeartbeats 4000000 in
theorem sp_396 {F Lo n : Nat} {a1 : Int32} {a2 : Int32} {a3 : Int32} {a4 : Int32} {c y : cS} {w : cW} {K : cS → Prop} {Q : ((Option Value) ⊕ String) → List va_E → Prop} (hw : rOK fm w) (hF : 5 ≤ F) (hLo : 130 ≤ Lo)  (h : wp (d_396 n a1 a2 a3 a4 c) K) (hQ : ∀ r, K r → Q (.inl none) (hq false r y w)) : rs (rt_P sc fm) 396 F Lo 0 [(0, .ref 174), (1, .int a1), (2, .int a2), (3, .int a3), (4, .int a4)] [] (hq false c y w) Q := by
  unfold d_396 at h
  obtain ⟨lv, elv⟩ : ∃ lv : rx_L, lv = [(0, .ref 174), (1, .int a1), (2, .int a2), (3, .int a3), (4, .int a4)] := ⟨_, rfl⟩
  rw [← elv]
  have l0 : rx_ld lv 0 = some (.ref 174) := by rw [elv]; rfl
  have l1 : rx_ld lv 1 = some (.int a1) := by rw [elv]; rfl
  have l2 : rx_ld lv 2 = some (.int a2) := by rw [elv]; rfl
  have l3 : rx_ld lv 3 = some (.int a3) := by rw [elv]; rfl
  have l4 : rx_ld lv 4 = some (.int a4) := by rw [elv]; rfl
  refine rs_aldn wi_396_0 l0 ?_
  refine dq_gr wi_396_1 wf_396_218 tf_174_60 ?_
  refine rs_ildn wi_396_4 l1 ?_
  refine rs_pure wi_396_5 rfl ?_
  refine rs_topi (v := 0) (by decide) ?_
  obtain ⟨g1, h⟩ := wp_gd h
  obtain ⟨c2, e3, h⟩ := wp_lt h
  refine dq_iast wi_396_6 t_222 g1 e3 ?_
  refine rs_ild wi_396_7 l4 ?_
  refine wp_jn (B := fun p4 : cS => ∀ lv, rx_ld lv 0 = some (.ref 174) → rx_ld lv 1 = some (.int a1) → rx_ld lv 2 = some (.int a2) → rx_ld lv 3 = some (.int a3) → rs (rt_P sc fm) 396 F Lo 32 lv [] (hq false p4 y w) Q) h (fun p4 h lv l0 l1 l2 l3 => ?_) (fun j32 hj32 h => ?_)
  ·
    refine whl_ex (A := fun s5 : cS => ∀ lv, rx_ld lv 0 = some (.ref 174) → rx_ld lv 1 = some (.int a1) → rx_ld lv 2 = some (.int a2) → rx_ld lv 3 = some (.int a3) → rs (rt_P sc fm) 396 F Lo 32 lv [] (hq false s5 y w) Q) (B := (fun x14 : cS => ∀ lv, rs (rt_P sc fm) 396 F Lo 101 lv [] (hq false x14 y w) Q)) ?_ ?_ _ _ (wp_bind h) _ l0 l1 l2 l3
    · intro s5 h lv l0 l1 l2 l3
      refine rs_aldn wi_396_32 l0 ?_
      refine dq_gi wi_396_33 wf_396_409 tf_174_13 ?_
      refine rs_ifne (tg := 101) wi_396_36 ⟨by decide, by decide⟩ (fun q => ?_) (fun q => ?_)
      ·
        have h := wp_neg h q
        exact h _
      ·
        have h := wp_pos h q
        refine rs_aldn wi_396_39 l0 ?_
        refine rs_pure wi_396_40 rfl ?_
        refine rs_topi (v := 64) (by decide) ?_
        refine rs_V wi_396_42 wc_396_477 rfl (dq_isa tf_174_0 wa_15_101) (Nat.le_trans (by decide) hF) (ml_le wm_101 (Nat.le_trans (by decide) hLo)) rfl (sp_101 hw (Nat.le_trans (by decide : 0 ≤ 5 - 1) (Nat.sub_le_sub_right hF 1)) (ml_sub wm_101 (Nat.le_trans (by decide : 0 ≤ 130 - 21) (Nat.sub_le_sub_right hLo 21))) (wp_bind h) (fun v6 h => rs_back1 ?_))
        refine rs_ifeq (tg := 101) wi_396_45 ⟨by decide, by decide⟩ (fun q => ?_) (fun q => ?_)
        ·
          have h := wp_pos h q
          exact h _
        ·
          have h := wp_neg h q
          refine rs_aldn wi_396_48 l0 ?_
          refine dq_gr wi_396_49 wf_396_218 tf_174_60 ?_
          refine rs_ildn wi_396_52 l1 ?_
          obtain ⟨g7, h⟩ := wp_gd h
          refine dq_iald wi_396_53 t_222 g7 ?_
          refine rs_pure wi_396_54 rfl ?_
          refine rs_topi (v := 20) (by decide) ?_
          refine wp_jn (B := fun p8 : cS => ∀ lv, rx_ld lv 0 = some (.ref 174) → rx_ld lv 1 = some (.int a1) → rx_ld lv 2 = some (.int a2) → rx_ld lv 3 = some (.int a3) → rs (rt_P sc fm) 396 F Lo 74 lv [] (hq false p8 y w) Q) h (fun p8 h lv l0 l1 l2 l3 => ?_) (fun j74 hj74 h => ?_)
          ·
            refine rs_aldn wi_396_74 l0 ?_
            refine rs_pure wi_396_75 rfl ?_
            refine dq_gi wi_396_76 wf_396_471 tf_174_67 ?_
            refine rs_pure wi_396_79 rfl ?_
            refine rs_topi (v := 1) (by decide) ?_
            refine rs_pure wi_396_80 rfl ?_
            obtain ⟨c9, e10, h⟩ := wp_lt h
            refine dq_pi wi_396_81 wp_396_471 tf_174_67 rfl rfl e10 ?_
            refine rs_aldn wi_396_84 l0 ?_
            refine dq_gi wi_396_85 wf_396_409 tf_174_13 ?_
            refine rs_ifne (tg := 32) wi_396_88 ⟨by decide, by decide⟩ (fun q => ?_) (fun q => ?_)
            ·
              have h := wp_neg h q
              exact h _ l0 l1 l2 l3
            ·
              have h := wp_pos h q
              refine rs_aldn wi_396_91 l0 ?_
              refine rs_ildn wi_396_92 l1 ?_
              refine rs_ildn wi_396_93 l2 ?_
              refine rs_ildn wi_396_94 l3 ?_
              refine rs_V wi_396_95 wc_396_547 rfl (dq_isa tf_174_0 wa_15_397) (Nat.le_trans (by decide) hF) (ml_le wm_397 (Nat.le_trans (by decide) hLo)) rfl (sp_397 hw (Nat.le_trans (by decide : 4 ≤ 5 - 1) (Nat.sub_le_sub_right hF 1)) (ml_sub wm_397 (Nat.le_trans (by decide : 96 ≤ 130 - 34) (Nat.sub_le_sub_right hLo 34))) (wp_bind h) (fun r11 h => rs_back0 ?_))
              refine rs_goto (tg := 32) wi_396_98 ⟨by decide, by decide⟩ ?_
              exact h _ l0 l1 l2 l3
          refine rs_icne (tg := 74) wi_396_56 ⟨by decide, by decide⟩ (fun q => ?_) (fun q => ?_)
          ·
            have h := wp_neg h q
            exact hj74 _ h _ l0 l1 l2 l3
          ·
            have h := wp_pos h q
            refine rs_aldn wi_396_59 l0 ?_
            refine rs_pure wi_396_60 rfl ?_
            refine rs_topi (v := 6) (by decide) ?_
            refine rs_aldn wi_396_62 l0 ?_
            refine dq_gr wi_396_63 wf_396_87 tf_174_9 ?_
            refine rs_aldn wi_396_66 l0 ?_
            refine dq_gi wi_396_67 wf_396_471 tf_174_67 ?_
            obtain ⟨g12, h⟩ := wp_gd h
            refine dq_iald wi_396_70 t_179 g12 ?_
            refine rs_V wi_396_71 wc_396_432 rfl (dq_isa tf_174_0 wa_15_97) (Nat.le_trans (by decide) hF) (ml_le wm_97 (Nat.le_trans (by decide) hLo)) rfl (sp_97 hw (Nat.le_trans (by decide : 0 ≤ 5 - 1) (Nat.sub_le_sub_right hF 1)) (ml_sub wm_97 (Nat.le_trans (by decide : 0 ≤ 130 - 22) (Nat.sub_le_sub_right hLo 22))) (wp_bind h) (fun r13 h => rs_back0 ?_))
            exact hj74 _ h _ l0 l1 l2 l3
    ·
      intro x14 h lv
      exact rs_vret wi_396_101 wr_396 (hQ x14 h)
  refine rs_ifeq (tg := 32) wi_396_9 ⟨by decide, by decide⟩ (fun q => ?_) (fun q => ?_)
  ·
    have h := wp_pos h q
    exact hj32 _ h _ l0 l1 l2 l3
  ·
    have h := wp_neg h q
    refine rs_aldn wi_396_12 l0 ?_
    refine dq_gi wi_396_13 wf_396_409 tf_174_13 ?_
    refine rs_ifne (tg := 32) wi_396_16 ⟨by decide, by decide⟩ (fun q => ?_) (fun q => ?_)
    ·
      have h := wp_neg h q
      exact hj32 _ h _ l0 l1 l2 l3
    ·
      have h := wp_pos h q
      refine rs_aldn wi_396_19 l0 ?_
      refine rs_pure wi_396_20 rfl ?_
      refine rs_topi (v := 64) (by decide) ?_
      refine rs_V wi_396_22 wc_396_477 rfl (dq_isa tf_174_0 wa_15_101) (Nat.le_trans (by decide) hF) (ml_le wm_101 (Nat.le_trans (by decide) hLo)) rfl (sp_101 hw (Nat.le_trans (by decide : 0 ≤ 5 - 1) (Nat.sub_le_sub_right hF 1)) (ml_sub wm_101 (Nat.le_trans (by decide : 0 ≤ 130 - 21) (Nat.sub_le_sub_right hLo 21))) (wp_bind h) (fun v15 h => rs_back1 ?_))
      refine rs_ifne (tg := 32) wi_396_25 ⟨by decide, by decide⟩ (fun q => ?_) (fun q => ?_)
      ·
        have h := wp_neg h q
        exact hj32 _ h _ l0 l1 l2 l3
      ·
        have h := wp_pos h q
        refine rs_aldn wi_396_28 l0 ?_
        refine rs_V wi_396_29 wc_396_480 rfl (dq_isa tf_174_0 wa_15_103) (Nat.le_trans (by decide) hF) (ml_le wm_103 (Nat.le_trans (by decide) hLo)) rfl (sp_103 hw (Nat.le_trans (by decide : 1 ≤ 5 - 1) (Nat.sub_le_sub_right hF 1)) (ml_sub wm_103 (Nat.le_trans (by decide : 22 ≤ 130 - 20) (Nat.sub_le_sub_right hLo 20))) (wp_bind h) (fun r16 h => rs_back0 ?_))
        exact hj32 _ h _ l0 l1 l2 l3
theorem t_196 : ta false 196 3 12 := ⟨rfl, by decide, by decide⟩
theorem tf_174_32 : fo false 174 15 32 (.ref 196) := ⟨_, rfl, rfl, by decide, by decide⟩
theorem wa_15_396 : rz_cn 15 (rx_yn (rt_P sc fm) 396).cls = true := (by decide +kernel : rz_cn 15 (rt_yn 396).cls = true)
theorem wa_15_401 : rz_cn 15 (rx_yn (rt_P sc fm) 401).cls = true := (by decide +kernel : rz_cn 15 (rt_yn 401).cls = true)
theorem wc_400_480 : rx_ct (rt_P sc fm) 400 480 = some (0, 103, 0) := (by decide +kernel : rt_ct 400 480 = some (0, 103, 0))
theorem wc_400_483 : rx_ct (rt_P sc fm) 400 483 = some (0, 379, 1) := (by decide +kernel : rt_ct 400 483 = some (0, 379, 1))
theorem wc_400_490 : rx_ct (rt_P sc fm) 400 490 = some (0, 102, 1) := (by decide +kernel : rt_ct 400 490 = some (0, 102, 1))
theorem wc_400_517 : rx_ct (rt_P sc fm) 400 517 = some (0, 383, 2) := (by decide +kernel : rt_ct 400 517 = some (0, 383, 2))
theorem wc_400_521 : rx_ct (rt_P sc fm) 400 521 = some (0, 380, 1) := (by decide +kernel : rt_ct 400 521 = some (0, 380, 1))
theorem wc_400_575 : rx_ct (rt_P sc fm) 400 575 = some (0, 401, 1) := (by decide +kernel : rt_ct 400 575 = some (0, 401, 1))
theorem wc_400_578 : rx_ct (rt_P sc fm) 400 578 = some (1, 399, 1) := (by decide +kernel : rt_ct 400 578 = some (1, 399, 1))
theorem wc_400_581 : rx_ct (rt_P sc fm) 400 581 = some (0, 396, 4) := (by decide +kernel : rt_ct 400 581 = some (0, 396, 4))
theorem wf_400_119 : rx_ft (rt_P sc fm) 400 119 = some (15, 25) := (by decide +kernel : rt_ft 400 119 = some (15, 25))
theorem wf_400_122 : rx_ft (rt_P sc fm) 400 122 = some (15, 26) := (by decide +kernel : rt_ft 400 122 = some (15, 26))
theorem wf_400_137 : rx_ft (rt_P sc fm) 400 137 = some (15, 31) := (by decide +kernel : rt_ft 400 137 = some (15, 31))
theorem wf_400_140 : rx_ft (rt_P sc fm) 400 140 = some (15, 32) := (by decide +kernel : rt_ft 400 140 = some (15, 32))
theorem wf_400_143 : rx_ft (rt_P sc fm) 400 143 = some (15, 33) := (by decide +kernel : rt_ft 400 143 = some (15, 33))
theorem wf_400_218 : rx_ft (rt_P sc fm) 400 218 = some (15, 60) := (by decide +kernel : rt_ft 400 218 = some (15, 60))
theorem wf_400_409 : rx_ft (rt_P sc fm) 400 409 = some (15, 13) := (by decide +kernel : rt_ft 400 409 = some (15, 13))
theorem wf_400_450 : rx_ft (rt_P sc fm) 400 450 = some (15, 24) := (by decide +kernel : rt_ft 400 450 = some (15, 24))
theorem wf_400_471 : rx_ft (rt_P sc fm) 400 471 = some (15, 67) := (by decide +kernel : rt_ft 400 471 = some (15, 67))
theorem wf_400_84 : rx_ft (rt_P sc fm) 400 84 = some (15, 8) := (by decide +kernel : rt_ft 400 84 = some (15, 8))
theorem wf_400_90 : rx_ft (rt_P sc fm) 400 90 = some (15, 10) := (by decide +kernel : rt_ft 400 90 = some (15, 10))
theorem wi_400_0 : ri (rt_P sc fm) 400 0 (.aload_n 0) (1) := ri_of (by decide +kernel) rfl
theorem wi_400_1 : ri (rt_P sc fm) 400 1 (.aload_n 0) (2) := ri_of (by decide +kernel) rfl
theorem wi_400_10 : ri (rt_P sc fm) 400 10 (.lstore_n 1) (11) := ri_of (by decide +kernel) rfl
theorem wi_400_100 : ri (rt_P sc fm) 400 100 (.iastore) (101) := ri_of (by decide +kernel) rfl
theorem wi_400_101 : ri (rt_P sc fm) 400 101 (.aload_n 0) (102) := ri_of (by decide +kernel) rfl
theorem wi_400_102 : ri (rt_P sc fm) 400 102 (.getfield 409) (105) := ri_of (by decide +kernel) rfl
theorem wi_400_105 : ri (rt_P sc fm) 400 105 (.ifCond .ne 67) (108) := ri_of (by decide +kernel) rfl
theorem wi_400_108 : ri (rt_P sc fm) 400 108 (.aload_n 0) (109) := ri_of (by decide +kernel) rfl
theorem wi_400_109 : ri (rt_P sc fm) 400 109 (.getfield 84) (112) := ri_of (by decide +kernel) rfl
theorem wi_400_11 : ri (rt_P sc fm) 400 11 (.aload_n 0) (12) := ri_of (by decide +kernel) rfl
theorem wi_400_112 : ri (rt_P sc fm) 400 112 (.aload_n 0) (113) := ri_of (by decide +kernel) rfl
theorem wi_400_113 : ri (rt_P sc fm) 400 113 (.getfield 471) (116) := ri_of (by decide +kernel) rfl
theorem wi_400_116 : ri (rt_P sc fm) 400 116 (.iaload) (117) := ri_of (by decide +kernel) rfl
theorem wi_400_117 : ri (rt_P sc fm) 400 117 (.iconst 4) (118) := ri_of (by decide +kernel) rfl
theorem wi_400_118 : ri (rt_P sc fm) 400 118 (.if_icmp .ne 54) (121) := ri_of (by decide +kernel) rfl
theorem wi_400_12 : ri (rt_P sc fm) 400 12 (.getfield 409) (15) := ri_of (by decide +kernel) rfl
theorem wi_400_121 : ri (rt_P sc fm) 400 121 (.aload_n 0) (122) := ri_of (by decide +kernel) rfl
theorem wi_400_122 : ri (rt_P sc fm) 400 122 (.getfield 90) (125) := ri_of (by decide +kernel) rfl
theorem wi_400_125 : ri (rt_P sc fm) 400 125 (.aload_n 0) (126) := ri_of (by decide +kernel) rfl
theorem wi_400_126 : ri (rt_P sc fm) 400 126 (.getfield 471) (129) := ri_of (by decide +kernel) rfl
theorem wi_400_129 : ri (rt_P sc fm) 400 129 (.laload) (130) := ri_of (by decide +kernel) rfl
theorem wi_400_130 : ri (rt_P sc fm) 400 130 (.l2i) (131) := ri_of (by decide +kernel) rfl
theorem wi_400_131 : ri (rt_P sc fm) 400 131 (.invokestatic 578) (134) := ri_of (by decide +kernel) rfl
theorem wi_400_134 : ri (rt_P sc fm) 400 134 (.ifCond .le 38) (137) := ri_of (by decide +kernel) rfl
theorem wi_400_137 : ri (rt_P sc fm) 400 137 (.aload_n 0) (138) := ri_of (by decide +kernel) rfl
theorem wi_400_138 : ri (rt_P sc fm) 400 138 (.getfield 137) (141) := ri_of (by decide +kernel) rfl
theorem wi_400_141 : ri (rt_P sc fm) 400 141 (.iload_n 3) (142) := ri_of (by decide +kernel) rfl
theorem wi_400_142 : ri (rt_P sc fm) 400 142 (.dup2) (143) := ri_of (by decide +kernel) rfl
theorem wi_400_143 : ri (rt_P sc fm) 400 143 (.iaload) (144) := ri_of (by decide +kernel) rfl
theorem wi_400_144 : ri (rt_P sc fm) 400 144 (.aload_n 0) (145) := ri_of (by decide +kernel) rfl
theorem wi_400_145 : ri (rt_P sc fm) 400 145 (.getfield 90) (148) := ri_of (by decide +kernel) rfl
theorem wi_400_148 : ri (rt_P sc fm) 400 148 (.aload_n 0) (149) := ri_of (by decide +kernel) rfl
theorem wi_400_149 : ri (rt_P sc fm) 400 149 (.getfield 471) (152) := ri_of (by decide +kernel) rfl
theorem wi_400_15 : ri (rt_P sc fm) 400 15 (.ifCond .eq 4) (18) := ri_of (by decide +kernel) rfl
theorem wi_400_152 : ri (rt_P sc fm) 400 152 (.laload) (153) := ri_of (by decide +kernel) rfl
theorem wi_400_153 : ri (rt_P sc fm) 400 153 (.l2i) (154) := ri_of (by decide +kernel) rfl
theorem wi_400_154 : ri (rt_P sc fm) 400 154 (.invokestatic 578) (157) := ri_of (by decide +kernel) rfl
theorem wi_400_157 : ri (rt_P sc fm) 400 157 (.ior) (158) := ri_of (by decide +kernel) rfl
theorem wi_400_158 : ri (rt_P sc fm) 400 158 (.iastore) (159) := ri_of (by decide +kernel) rfl
theorem wi_400_159 : ri (rt_P sc fm) 400 159 (.aload_n 0) (160) := ri_of (by decide +kernel) rfl
theorem wi_400_160 : ri (rt_P sc fm) 400 160 (.dup) (161) := ri_of (by decide +kernel) rfl
theorem wi_400_161 : ri (rt_P sc fm) 400 161 (.getfield 471) (164) := ri_of (by decide +kernel) rfl
theorem wi_400_164 : ri (rt_P sc fm) 400 164 (.iconst 1) (165) := ri_of (by decide +kernel) rfl
theorem wi_400_165 : ri (rt_P sc fm) 400 165 (.iadd) (166) := ri_of (by decide +kernel) rfl
theorem wi_400_166 : ri (rt_P sc fm) 400 166 (.putfield 471) (169) := ri_of (by decide +kernel) rfl
theorem wi_400_169 : ri (rt_P sc fm) 400 169 (.goto (-68)) (172) := ri_of (by decide +kernel) rfl
theorem wi_400_172 : ri (rt_P sc fm) 400 172 (.aload_n 0) (173) := ri_of (by decide +kernel) rfl
theorem wi_400_173 : ri (rt_P sc fm) 400 173 (.getfield 137) (176) := ri_of (by decide +kernel) rfl
theorem wi_400_176 : ri (rt_P sc fm) 400 176 (.iload_n 3) (177) := ri_of (by decide +kernel) rfl
theorem wi_400_177 : ri (rt_P sc fm) 400 177 (.iaload) (178) := ri_of (by decide +kernel) rfl
theorem wi_400_178 : ri (rt_P sc fm) 400 178 (.ifCond .ne 7) (181) := ri_of (by decide +kernel) rfl
theorem wi_400_18 : ri (rt_P sc fm) 400 18 (.return_) (19) := ri_of (by decide +kernel) rfl
theorem wi_400_181 : ri (rt_P sc fm) 400 181 (.aload_n 0) (182) := ri_of (by decide +kernel) rfl
theorem wi_400_182 : ri (rt_P sc fm) 400 182 (.invokevirtual 480) (185) := ri_of (by decide +kernel) rfl
theorem wi_400_185 : ri (rt_P sc fm) 400 185 (.aload_n 0) (186) := ri_of (by decide +kernel) rfl
theorem wi_400_186 : ri (rt_P sc fm) 400 186 (.getfield 140) (189) := ri_of (by decide +kernel) rfl
theorem wi_400_189 : ri (rt_P sc fm) 400 189 (.iload_n 3) (190) := ri_of (by decide +kernel) rfl
theorem wi_400_19 : ri (rt_P sc fm) 400 19 (.aload_n 0) (20) := ri_of (by decide +kernel) rfl
theorem wi_400_190 : ri (rt_P sc fm) 400 190 (.aload_n 0) (191) := ri_of (by decide +kernel) rfl
theorem wi_400_191 : ri (rt_P sc fm) 400 191 (.bipush 9) (193) := ri_of (by decide +kernel) rfl
theorem wi_400_193 : ri (rt_P sc fm) 400 193 (.invokevirtual 490) (196) := ri_of (by decide +kernel) rfl
theorem wi_400_196 : ri (rt_P sc fm) 400 196 (.bastore) (197) := ri_of (by decide +kernel) rfl
theorem wi_400_197 : ri (rt_P sc fm) 400 197 (.aload_n 0) (198) := ri_of (by decide +kernel) rfl
theorem wi_400_198 : ri (rt_P sc fm) 400 198 (.getfield 143) (201) := ri_of (by decide +kernel) rfl
theorem wi_400_2 : ri (rt_P sc fm) 400 2 (.getfield 450) (5) := ri_of (by decide +kernel) rfl
theorem wi_400_20 : ri (rt_P sc fm) 400 20 (.getfield 450) (23) := ri_of (by decide +kernel) rfl
theorem wi_400_201 : ri (rt_P sc fm) 400 201 (.iload_n 3) (202) := ri_of (by decide +kernel) rfl
theorem wi_400_202 : ri (rt_P sc fm) 400 202 (.aload_n 0) (203) := ri_of (by decide +kernel) rfl
theorem wi_400_203 : ri (rt_P sc fm) 400 203 (.bipush 10) (205) := ri_of (by decide +kernel) rfl
theorem wi_400_205 : ri (rt_P sc fm) 400 205 (.invokevirtual 490) (208) := ri_of (by decide +kernel) rfl
theorem wi_400_208 : ri (rt_P sc fm) 400 208 (.bastore) (209) := ri_of (by decide +kernel) rfl
theorem wi_400_209 : ri (rt_P sc fm) 400 209 (.aload_n 0) (210) := ri_of (by decide +kernel) rfl
theorem wi_400_210 : ri (rt_P sc fm) 400 210 (.getfield 218) (213) := ri_of (by decide +kernel) rfl
theorem wi_400_213 : ri (rt_P sc fm) 400 213 (.sipush 1200) (216) := ri_of (by decide +kernel) rfl
theorem wi_400_216 : ri (rt_P sc fm) 400 216 (.iload_n 3) (217) := ri_of (by decide +kernel) rfl
theorem wi_400_217 : ri (rt_P sc fm) 400 217 (.iadd) (218) := ri_of (by decide +kernel) rfl
theorem wi_400_218 : ri (rt_P sc fm) 400 218 (.iconst 0) (219) := ri_of (by decide +kernel) rfl
theorem wi_400_219 : ri (rt_P sc fm) 400 219 (.iastore) (220) := ri_of (by decide +kernel) rfl
theorem wi_400_220 : ri (rt_P sc fm) 400 220 (.aload_n 0) (221) := ri_of (by decide +kernel) rfl
theorem wi_400_221 : ri (rt_P sc fm) 400 221 (.bipush 61) (223) := ri_of (by decide +kernel) rfl
theorem wi_400_223 : ri (rt_P sc fm) 400 223 (.invokevirtual 483) (226) := ri_of (by decide +kernel) rfl
theorem wi_400_226 : ri (rt_P sc fm) 400 226 (.ifCond .eq 16) (229) := ri_of (by decide +kernel) rfl
theorem wi_400_229 : ri (rt_P sc fm) 400 229 (.aload_n 0) (230) := ri_of (by decide +kernel) rfl
theorem wi_400_23 : ri (rt_P sc fm) 400 23 (.istore_n 3) (24) := ri_of (by decide +kernel) rfl
theorem wi_400_230 : ri (rt_P sc fm) 400 230 (.sipush 1200) (233) := ri_of (by decide +kernel) rfl
theorem wi_400_233 : ri (rt_P sc fm) 400 233 (.iload_n 3) (234) := ri_of (by decide +kernel) rfl
theorem wi_400_234 : ri (rt_P sc fm) 400 234 (.iadd) (235) := ri_of (by decide +kernel) rfl
theorem wi_400_235 : ri (rt_P sc fm) 400 235 (.bipush 15) (237) := ri_of (by decide +kernel) rfl
theorem wi_400_237 : ri (rt_P sc fm) 400 237 (.iconst 0) (238) := ri_of (by decide +kernel) rfl
theorem wi_400_238 : ri (rt_P sc fm) 400 238 (.iconst 1) (239) := ri_of (by decide +kernel) rfl
theorem wi_400_239 : ri (rt_P sc fm) 400 239 (.invokevirtual 581) (242) := ri_of (by decide +kernel) rfl
theorem wi_400_24 : ri (rt_P sc fm) 400 24 (.aload_n 0) (25) := ri_of (by decide +kernel) rfl
theorem wi_400_242 : ri (rt_P sc fm) 400 242 (.aload_n 0) (243) := ri_of (by decide +kernel) rfl
theorem wi_400_243 : ri (rt_P sc fm) 400 243 (.bipush 59) (245) := ri_of (by decide +kernel) rfl
theorem wi_400_245 : ri (rt_P sc fm) 400 245 (.invokevirtual 521) (248) := ri_of (by decide +kernel) rfl
theorem wi_400_248 : ri (rt_P sc fm) 400 248 (.aload_n 0) (249) := ri_of (by decide +kernel) rfl
theorem wi_400_249 : ri (rt_P sc fm) 400 249 (.getfield 119) (252) := ri_of (by decide +kernel) rfl
theorem wi_400_25 : ri (rt_P sc fm) 400 25 (.getfield 122) (28) := ri_of (by decide +kernel) rfl
theorem wi_400_252 : ri (rt_P sc fm) 400 252 (.iload_n 3) (253) := ri_of (by decide +kernel) rfl
theorem wi_400_253 : ri (rt_P sc fm) 400 253 (.lload_n 1) (254) := ri_of (by decide +kernel) rfl
theorem wi_400_254 : ri (rt_P sc fm) 400 254 (.lastore) (255) := ri_of (by decide +kernel) rfl
theorem wi_400_255 : ri (rt_P sc fm) 400 255 (.aload_n 0) (256) := ri_of (by decide +kernel) rfl
theorem wi_400_256 : ri (rt_P sc fm) 400 256 (.dup) (257) := ri_of (by decide +kernel) rfl
theorem wi_400_257 : ri (rt_P sc fm) 400 257 (.getfield 450) (260) := ri_of (by decide +kernel) rfl
theorem wi_400_260 : ri (rt_P sc fm) 400 260 (.iconst 1) (261) := ri_of (by decide +kernel) rfl
theorem wi_400_261 : ri (rt_P sc fm) 400 261 (.iadd) (262) := ri_of (by decide +kernel) rfl
theorem wi_400_262 : ri (rt_P sc fm) 400 262 (.putfield 450) (265) := ri_of (by decide +kernel) rfl
theorem wi_400_265 : ri (rt_P sc fm) 400 265 (.return_) (266) := ri_of (by decide +kernel) rfl
theorem wi_400_28 : ri (rt_P sc fm) 400 28 (.iload_n 3) (29) := ri_of (by decide +kernel) rfl
theorem wi_400_29 : ri (rt_P sc fm) 400 29 (.iconst 0) (30) := ri_of (by decide +kernel) rfl
theorem wi_400_30 : ri (rt_P sc fm) 400 30 (.iastore) (31) := ri_of (by decide +kernel) rfl
theorem wi_400_31 : ri (rt_P sc fm) 400 31 (.aload_n 0) (32) := ri_of (by decide +kernel) rfl
theorem wi_400_32 : ri (rt_P sc fm) 400 32 (.bipush 40) (34) := ri_of (by decide +kernel) rfl
theorem wi_400_34 : ri (rt_P sc fm) 400 34 (.invokevirtual 483) (37) := ri_of (by decide +kernel) rfl
theorem wi_400_37 : ri (rt_P sc fm) 400 37 (.ifCond .eq 40) (40) := ri_of (by decide +kernel) rfl
theorem wi_400_40 : ri (rt_P sc fm) 400 40 (.iconst 1) (41) := ri_of (by decide +kernel) rfl
theorem wi_400_41 : ri (rt_P sc fm) 400 41 (.istore 4) (43) := ri_of (by decide +kernel) rfl
theorem wi_400_43 : ri (rt_P sc fm) 400 43 (.iload 4) (45) := ri_of (by decide +kernel) rfl
theorem wi_400_45 : ri (rt_P sc fm) 400 45 (.ifCond .eq 26) (48) := ri_of (by decide +kernel) rfl
theorem wi_400_48 : ri (rt_P sc fm) 400 48 (.aload_n 0) (49) := ri_of (by decide +kernel) rfl
theorem wi_400_49 : ri (rt_P sc fm) 400 49 (.getfield 409) (52) := ri_of (by decide +kernel) rfl
theorem wi_400_5 : ri (rt_P sc fm) 400 5 (.bipush 12) (7) := ri_of (by decide +kernel) rfl
theorem wi_400_52 : ri (rt_P sc fm) 400 52 (.ifCond .ne 19) (55) := ri_of (by decide +kernel) rfl
theorem wi_400_55 : ri (rt_P sc fm) 400 55 (.aload_n 0) (56) := ri_of (by decide +kernel) rfl
theorem wi_400_56 : ri (rt_P sc fm) 400 56 (.iload_n 3) (57) := ri_of (by decide +kernel) rfl
theorem wi_400_57 : ri (rt_P sc fm) 400 57 (.invokevirtual 575) (60) := ri_of (by decide +kernel) rfl
theorem wi_400_60 : ri (rt_P sc fm) 400 60 (.aload_n 0) (61) := ri_of (by decide +kernel) rfl
theorem wi_400_61 : ri (rt_P sc fm) 400 61 (.bipush 44) (63) := ri_of (by decide +kernel) rfl
theorem wi_400_63 : ri (rt_P sc fm) 400 63 (.invokevirtual 483) (66) := ri_of (by decide +kernel) rfl
theorem wi_400_66 : ri (rt_P sc fm) 400 66 (.istore 4) (68) := ri_of (by decide +kernel) rfl
theorem wi_400_68 : ri (rt_P sc fm) 400 68 (.goto (-25)) (71) := ri_of (by decide +kernel) rfl
theorem wi_400_7 : ri (rt_P sc fm) 400 7 (.invokevirtual 517) (10) := ri_of (by decide +kernel) rfl
theorem wi_400_71 : ri (rt_P sc fm) 400 71 (.aload_n 0) (72) := ri_of (by decide +kernel) rfl
theorem wi_400_72 : ri (rt_P sc fm) 400 72 (.bipush 41) (74) := ri_of (by decide +kernel) rfl
theorem wi_400_74 : ri (rt_P sc fm) 400 74 (.invokevirtual 521) (77) := ri_of (by decide +kernel) rfl
theorem wi_400_77 : ri (rt_P sc fm) 400 77 (.aload_n 0) (78) := ri_of (by decide +kernel) rfl
theorem wi_400_78 : ri (rt_P sc fm) 400 78 (.getfield 137) (81) := ri_of (by decide +kernel) rfl
theorem wi_400_81 : ri (rt_P sc fm) 400 81 (.iload_n 3) (82) := ri_of (by decide +kernel) rfl
theorem wi_400_82 : ri (rt_P sc fm) 400 82 (.bipush 15) (84) := ri_of (by decide +kernel) rfl
theorem wi_400_84 : ri (rt_P sc fm) 400 84 (.iastore) (85) := ri_of (by decide +kernel) rfl
theorem wi_400_85 : ri (rt_P sc fm) 400 85 (.aload_n 0) (86) := ri_of (by decide +kernel) rfl
theorem wi_400_86 : ri (rt_P sc fm) 400 86 (.bipush 8) (88) := ri_of (by decide +kernel) rfl
theorem wi_400_88 : ri (rt_P sc fm) 400 88 (.invokevirtual 490) (91) := ri_of (by decide +kernel) rfl
theorem wi_400_91 : ri (rt_P sc fm) 400 91 (.ifCond .eq 94) (94) := ri_of (by decide +kernel) rfl
theorem wi_400_94 : ri (rt_P sc fm) 400 94 (.aload_n 0) (95) := ri_of (by decide +kernel) rfl
theorem wi_400_95 : ri (rt_P sc fm) 400 95 (.getfield 137) (98) := ri_of (by decide +kernel) rfl
theorem wi_400_98 : ri (rt_P sc fm) 400 98 (.iload_n 3) (99) := ri_of (by decide +kernel) rfl
theorem wi_400_99 : ri (rt_P sc fm) 400 99 (.iconst 0) (100) := ri_of (by decide +kernel) rfl
theorem wm_396 : rx_ml (rt_P sc fm) 396 = 5 := (by decide +kernel : rt_ml 396 = 5)
theorem wm_399 : rx_ml (rt_P sc fm) 399 = 1 := (by decide +kernel : rt_ml 399 = 1)
theorem wm_401 : rx_ml (rt_P sc fm) 401 = 6 := (by decide +kernel : rt_ml 401 = 6)
theorem wp_400_450 : rx_pt (rt_P sc fm) 400 450 = some (15, 24, .int) := (by decide +kernel : rt_pt 400 450 = some (15, 24, .int))
theorem wp_400_471 : rx_pt (rt_P sc fm) 400 471 = some (15, 67, .int) := (by decide +kernel : rt_pt 400 471 = some (15, 67, .int))
theorem wr_400 : rx_rt (rt_P sc fm) 400 = none := (by decide +kernel : rt_rt 400 = none)
/-- MarkHouseModel.readKind()V -/
def d_400 (n : Nat)  (c : cS) : Option (cS) :=
  Option.bind (d_383 n (c.1 174 24) 12 c) (fun r1 =>
  if (r1.2.1 174 13) = 0 then
    lt ((r1.2.1 174 24) : Int32) (fun v4 =>
    if ib v4 12 then
    lt (pI r1.2 190 (ix v4) 0) (fun c7 =>
    Option.bind (d_379 n 40 c7) (fun r9 =>
    jn (fun p10 : cS =>
      if ib v4 12 then
      lt (pI p10 195 (ix v4) 15) (fun c12 =>
      Option.bind (d_102 n 8 c12) (fun r14 =>
      jn (fun p15 : cS =>
        Option.bind (d_102 n 9 p15) (fun r16 =>
        if ib v4 12 then
        lt (pI r16.2 196 (ix v4) (vp_nar .boolean r16.1)) (fun c18 =>
        Option.bind (d_102 n 10 c18) (fun r20 =>
        if ib v4 12 then
        lt (pI r20.2 197 (ix v4) (vp_nar .boolean r20.1)) (fun c22 =>
        if ib (1200 + v4) 1219 then
        lt (pI c22 222 (ix (1200 + v4)) 0) (fun c25 =>
        Option.bind (d_379 n 61 c25) (fun r27 =>
        jn (fun p28 : cS =>
          Option.bind (d_380 n 59 p28) (fun r29 =>
          if ib v4 12 then
          lt (pL r29 189 (ix v4) r1.1) (fun c31 =>
          lt (pI c31 174 24 ((c31.1 174 24) + 1)) (fun c33 =>
          some c33))
          else none))
        (fun j242 =>
        if r27.1 = 0 then
          j242 r27.2
        else
          Option.bind (d_396 n (1200 + v4) 15 0 1 r27.2) (fun r35 =>
          j242 r35))))
        else none)
        else none))
        else none))
      (fun j185 =>
      if r14.1 = 0 then
        j185 r14.2
      else
        if ib v4 12 then
        lt (pI r14.2 195 (ix v4) 0) (fun c37 =>
        Option.bind (whl (R := (cS)) (fun s39 : cS =>
          if (s39.1 174 13) = 0 then
            if ib (s39.1 174 67) 4001 then
            if (s39.1 178 (ix (s39.1 174 67))) = 4 then
              if ib (s39.1 174 67) 4001 then
              Option.bind (d_399 n (((s39.2 180 (ix (s39.1 174 67))) : Int64).toInt32)) (fun v42 =>
              if v42 ≤ 0 then
                some (.inr s39)
              else
                if ib v4 12 then
                if ib (s39.1 174 67) 4001 then
                Option.bind (d_399 n (((s39.2 180 (ix (s39.1 174 67))) : Int64).toInt32)) (fun v45 =>
                if ib v4 12 then
                lt (pI s39 195 (ix v4) ((s39.1 195 (ix v4)) ||| v45)) (fun c47 =>
                lt (pI c47 174 67 ((c47.1 174 67) + 1)) (fun c49 =>
                some (.inl c49)))
                else none)
                else none
                else none)
              else none
            else
              some (.inr s39)
            else none
          else
            some (.inr s39)) n c37)
        (fun x51 : cS =>
          if ib v4 12 then
          if (x51.1 195 (ix v4)) = 0 then
            Option.bind (d_103 n x51) (fun r53 =>
            j185 r53)
          else
            j185 x51
          else none))
        else none)))
      else none)
    (fun j77 =>
    if r9.1 = 0 then
      j77 r9.2
    else
      Option.bind (whl (R := (cS)) (fun s55 : Int32 × cS =>
        if s55.1 = 0 then
          some (.inr s55.2)
        else
          if (s55.2.1 174 13) = 0 then
            Option.bind (d_401 n v4 s55.2) (fun r56 =>
            Option.bind (d_379 n 44 r56) (fun r57 =>
            some (.inl (r57.1, r57.2))))
          else
            some (.inr s55.2)) n (1, r9.2))
      (fun x59 : cS =>
        Option.bind (d_380 n 41 x59) (fun r60 =>
        j77 r60)))))
    else none)
  else
    some r1.2)
set_option maxRecDepth 100000 in
set_option maxHeartbeats 4000000 in
theorem sp_400 {F Lo n : Nat}  {c y : cS} {w : cW} {K : cS → Prop} {Q : ((Option Value) ⊕ String) → List va_E → Prop} (hw : rOK fm w) (hF : 6 ≤ F) (hLo : 154 ≤ Lo)  (h : wp (d_400 n  c) K) (hQ : ∀ r, K r → Q (.inl none) (hq false r y w)) : rs (rt_P sc fm) 400 F Lo 0 [(0, .ref 174)] [] (hq false c y w) Q := by
  unfold d_400 at h
  obtain ⟨lv, elv⟩ : ∃ lv : rx_L, lv = [(0, .ref 174)] := ⟨_, rfl⟩
  rw [← elv]
  have l0 : rx_ld lv 0 = some (.ref 174) := by rw [elv]; rfl
  refine rs_aldn wi_400_0 l0 ?_
  refine rs_aldn wi_400_1 l0 ?_
  refine dq_gi wi_400_2 wf_400_450 tf_174_24 ?_
  refine rs_pure wi_400_5 rfl ?_
  refine rs_topi (v := 12) (by decide) ?_
  refine rs_V wi_400_7 wc_400_517 rfl (dq_isa tf_174_0 wa_15_383) (Nat.le_trans (by decide) hF) (ml_le wm_383 (Nat.le_trans (by decide) hLo)) rfl (sp_383 hw (Nat.le_trans (by decide : 3 ≤ 6 - 1) (Nat.sub_le_sub_right hF 1)) (ml_sub wm_383 (Nat.le_trans (by decide : 62 ≤ 154 - 25) (Nat.sub_le_sub_right hLo 25))) (wp_bind h) (fun r1 h => rs_back1 ?_))
  refine dl_lstn wi_400_10 rfl (fun lv l1 t2 => ?_)
  have l0 := t2 _ _ (by decide) (by decide) (Or.inl rfl) l0
  refine rs_aldn wi_400_11 l0 ?_
  refine dq_gi wi_400_12 wf_400_409 tf_174_13 ?_
  refine rs_ifeq (tg := 19) wi_400_15 ⟨by decide, by decide⟩ (fun q => ?_) (fun q => ?_)
  ·
    have h := wp_pos h q
    refine rs_aldn wi_400_19 l0 ?_
    refine dq_gi wi_400_20 wf_400_450 tf_174_24 ?_
    obtain ⟨v4, e5, h⟩ := wp_lt h
    refine rs_topi e5 ?_
    refine dl_istn wi_400_23 rfl (fun lv l3 t3 => ?_)
    have l0 := t3 _ _ (by decide) (Or.inl rfl) l0
    have l1 := t3 _ _ (by decide) (Or.inr (by decide)) l1
    refine rs_aldn wi_400_24 l0 ?_
    refine dq_gr wi_400_25 wf_400_122 tf_174_26 ?_
    refine rs_ildn wi_400_28 l3 ?_
    refine rs_pure wi_400_29 rfl ?_
    refine rs_topi (v := 0) (by decide) ?_
    obtain ⟨g6, h⟩ := wp_gd h
    obtain ⟨c7, e8, h⟩ := wp_lt h
    refine dq_iast wi_400_30 t_190 g6 e8 ?_
    refine rs_aldn wi_400_31 l0 ?_
    refine rs_pure wi_400_32 rfl ?_
    refine rs_topi (v := 40) (by decide) ?_
    refine rs_V wi_400_34 wc_400_483 rfl (dq_isa tf_174_0 wa_15_379) (Nat.le_trans (by decide) hF) (ml_le wm_379 (Nat.le_trans (by decide) hLo)) rfl (sp_379 hw (Nat.le_trans (by decide : 1 ≤ 6 - 1) (Nat.sub_le_sub_right hF 1)) (ml_sub wm_379 (Nat.le_trans (by decide : 21 ≤ 154 - 21) (Nat.sub_le_sub_right hLo 21))) (wp_bind h) (fun r9 h => rs_back1 ?_))
    refine wp_jn (B := fun p10 : cS => ∀ lv, rx_ld lv 0 = some (.ref 174) → rx_ld lv 1 = some (.long r1.1) → rx_ld lv 3 = some (.int v4) → rs (rt_P sc fm) 400 F Lo 77 lv [] (hq false p10 y w) Q) h (fun p10 h lv l0 l1 l3 => ?_) (fun j77 hj77 h => ?_)
    ·
      refine rs_aldn wi_400_77 l0 ?_
      refine dq_gr wi_400_78 wf_400_137 tf_174_31 ?_
      refine rs_ildn wi_400_81 l3 ?_
      refine rs_pure wi_400_82 rfl ?_
      refine rs_topi (v := 15) (by decide) ?_
      obtain ⟨g11, h⟩ := wp_gd h
      obtain ⟨c12, e13, h⟩ := wp_lt h
      refine dq_iast wi_400_84 t_195 g11 e13 ?_
      refine rs_aldn wi_400_85 l0 ?_
      refine rs_pure wi_400_86 rfl ?_
      refine rs_topi (v := 8) (by decide) ?_
      refine rs_V wi_400_88 wc_400_490 rfl (dq_isa tf_174_0 wa_15_102) (Nat.le_trans (by decide) hF) (ml_le wm_102 (Nat.le_trans (by decide) hLo)) rfl (sp_102 hw (Nat.le_trans (by decide : 1 ≤ 6 - 1) (Nat.sub_le_sub_right hF 1)) (ml_sub wm_102 (Nat.le_trans (by decide : 21 ≤ 154 - 21) (Nat.sub_le_sub_right hLo 21))) (wp_bind h) (fun r14 h => rs_back1 ?_))
      refine wp_jn (B := fun p15 : cS => ∀ lv, rx_ld lv 0 = some (.ref 174) → rx_ld lv 1 = some (.long r1.1) → rx_ld lv 3 = some (.int v4) → rs (rt_P sc fm) 400 F Lo 185 lv [] (hq false p15 y w) Q) h (fun p15 h lv l0 l1 l3 => ?_) (fun j185 hj185 h => ?_)
      ·
        refine rs_aldn wi_400_185 l0 ?_
        refine dq_gr wi_400_186 wf_400_140 tf_174_32 ?_
        refine rs_ildn wi_400_189 l3 ?_
        refine rs_aldn wi_400_190 l0 ?_
        refine rs_pure wi_400_191 rfl ?_
        refine rs_topi (v := 9) (by decide) ?_
        refine rs_V wi_400_193 wc_400_490 rfl (dq_isa tf_174_0 wa_15_102) (Nat.le_trans (by decide) hF) (ml_le wm_102 (Nat.le_trans (by decide) hLo)) rfl (sp_102 hw (Nat.le_trans (by decide : 1 ≤ 6 - 1) (Nat.sub_le_sub_right hF 1)) (ml_sub wm_102 (Nat.le_trans (by decide : 21 ≤ 154 - 21) (Nat.sub_le_sub_right hLo 21))) (wp_bind h) (fun r16 h => rs_back1 ?_))
        obtain ⟨g17, h⟩ := wp_gd h
        obtain ⟨c18, e19, h⟩ := wp_lt h
        refine dq_zast wi_400_196 t_196 g17 e19 ?_
        refine rs_aldn wi_400_197 l0 ?_
        refine dq_gr wi_400_198 wf_400_143 tf_174_33 ?_
        refine rs_ildn wi_400_201 l3 ?_
        refine rs_aldn wi_400_202 l0 ?_
        refine rs_pure wi_400_203 rfl ?_
        refine rs_topi (v := 10) (by decide) ?_
        refine rs_V wi_400_205 wc_400_490 rfl (dq_isa tf_174_0 wa_15_102) (Nat.le_trans (by decide) hF) (ml_le wm_102 (Nat.le_trans (by decide) hLo)) rfl (sp_102 hw (Nat.le_trans (by decide : 1 ≤ 6 - 1) (Nat.sub_le_sub_right hF 1)) (ml_sub wm_102 (Nat.le_trans (by decide : 21 ≤ 154 - 21) (Nat.sub_le_sub_right hLo 21))) (wp_bind h) (fun r20 h => rs_back1 ?_))
        obtain ⟨g21, h⟩ := wp_gd h
        obtain ⟨c22, e23, h⟩ := wp_lt h
        refine dq_zast wi_400_208 t_197 g21 e23 ?_
        refine rs_aldn wi_400_209 l0 ?_
        refine dq_gr wi_400_210 wf_400_218 tf_174_60 ?_
        refine rs_pure wi_400_213 rfl ?_
        refine rs_topi (v := 1200) (by decide) ?_
        refine rs_ildn wi_400_216 l3 ?_
        refine rs_pure wi_400_217 rfl ?_
        refine rs_pure wi_400_218 rfl ?_
        refine rs_topi (v := 0) (by decide) ?_
        obtain ⟨g24, h⟩ := wp_gd h
        obtain ⟨c25, e26, h⟩ := wp_lt h
        refine dq_iast wi_400_219 t_222 g24 e26 ?_
        refine rs_aldn wi_400_220 l0 ?_
        refine rs_pure wi_400_221 rfl ?_
        refine rs_topi (v := 61) (by decide) ?_
        refine rs_V wi_400_223 wc_400_483 rfl (dq_isa tf_174_0 wa_15_379) (Nat.le_trans (by decide) hF) (ml_le wm_379 (Nat.le_trans (by decide) hLo)) rfl (sp_379 hw (Nat.le_trans (by decide : 1 ≤ 6 - 1) (Nat.sub_le_sub_right hF 1)) (ml_sub wm_379 (Nat.le_trans (by decide : 21 ≤ 154 - 21) (Nat.sub_le_sub_right hLo 21))) (wp_bind h) (fun r27 h => rs_back1 ?_))
        refine wp_jn (B := fun p28 : cS => ∀ lv, rx_ld lv 0 = some (.ref 174) → rx_ld lv 1 = some (.long r1.1) → rx_ld lv 3 = some (.int v4) → rs (rt_P sc fm) 400 F Lo 242 lv [] (hq false p28 y w) Q) h (fun p28 h lv l0 l1 l3 => ?_) (fun j242 hj242 h => ?_)
        ·
          refine rs_aldn wi_400_242 l0 ?_
          refine rs_pure wi_400_243 rfl ?_
          refine rs_topi (v := 59) (by decide) ?_
          refine rs_V wi_400_245 wc_400_521 rfl (dq_isa tf_174_0 wa_15_380) (Nat.le_trans (by decide) hF) (ml_le wm_380 (Nat.le_trans (by decide) hLo)) rfl (sp_380 hw (Nat.le_trans (by decide : 2 ≤ 6 - 1) (Nat.sub_le_sub_right hF 1)) (ml_sub wm_380 (Nat.le_trans (by decide : 42 ≤ 154 - 21) (Nat.sub_le_sub_right hLo 21))) (wp_bind h) (fun r29 h => rs_back0 ?_))
          refine rs_aldn wi_400_248 l0 ?_
          refine dq_gr wi_400_249 wf_400_119 tf_174_25 ?_
          refine rs_ildn wi_400_252 l3 ?_
          refine rs_lldn wi_400_253 l1 ?_
          obtain ⟨g30, h⟩ := wp_gd h
          obtain ⟨c31, e32, h⟩ := wp_lt h
          refine dq_last wi_400_254 t_189 g30 e32 ?_
          refine rs_aldn wi_400_255 l0 ?_
          refine rs_pure wi_400_256 rfl ?_
          refine dq_gi wi_400_257 wf_400_450 tf_174_24 ?_
          refine rs_pure wi_400_260 rfl ?_
          refine rs_topi (v := 1) (by decide) ?_
          refine rs_pure wi_400_261 rfl ?_
          obtain ⟨c33, e34, h⟩ := wp_lt h
          refine dq_pi wi_400_262 wp_400_450 tf_174_24 rfl rfl e34 ?_
          exact rs_vret wi_400_265 wr_400 (hQ c33 h)
        refine rs_ifeq (tg := 242) wi_400_226 ⟨by decide, by decide⟩ (fun q => ?_) (fun q => ?_)
        ·
          have h := wp_pos h q
          exact hj242 _ h _ l0 l1 l3
        ·
          have h := wp_neg h q
          refine rs_aldn wi_400_229 l0 ?_
          refine rs_pure wi_400_230 rfl ?_
          refine rs_topi (v := 1200) (by decide) ?_
          refine rs_ildn wi_400_233 l3 ?_
          refine rs_pure wi_400_234 rfl ?_
          refine rs_pure wi_400_235 rfl ?_
          refine rs_topi (v := 15) (by decide) ?_
          refine rs_pure wi_400_237 rfl ?_
          refine rs_topi (v := 0) (by decide) ?_
          refine rs_pure wi_400_238 rfl ?_
          refine rs_topi (v := 1) (by decide) ?_
          refine rs_V wi_400_239 wc_400_581 rfl (dq_isa tf_174_0 wa_15_396) (Nat.le_trans (by decide) hF) (ml_le wm_396 (Nat.le_trans (by decide) hLo)) rfl (sp_396 hw (Nat.le_trans (by decide : 5 ≤ 6 - 1) (Nat.sub_le_sub_right hF 1)) (ml_sub wm_396 (Nat.le_trans (by decide : 130 ≤ 154 - 24) (Nat.sub_le_sub_right hLo 24))) (wp_bind h) (fun r35 h => rs_back0 ?_))
          exact hj242 _ h _ l0 l1 l3
      refine rs_ifeq (tg := 185) wi_400_91 ⟨by decide, by decide⟩ (fun q => ?_) (fun q => ?_)
      ·
        have h := wp_pos h q
        exact hj185 _ h _ l0 l1 l3
      ·
        have h := wp_neg h q
        refine rs_aldn wi_400_94 l0 ?_
        refine dq_gr wi_400_95 wf_400_137 tf_174_31 ?_
        refine rs_ildn wi_400_98 l3 ?_
        refine rs_pure wi_400_99 rfl ?_
        refine rs_topi (v := 0) (by decide) ?_
        obtain ⟨g36, h⟩ := wp_gd h
        obtain ⟨c37, e38, h⟩ := wp_lt h
        refine dq_iast wi_400_100 t_195 g36 e38 ?_
        refine whl_ex (A := fun s39 : cS => ∀ lv, rx_ld lv 0 = some (.ref 174) → rx_ld lv 1 = some (.long r1.1) → rx_ld lv 3 = some (.int v4) → rs (rt_P sc fm) 400 F Lo 101 lv [] (hq false s39 y w) Q) (B := (fun x51 : cS => ∀ lv, rx_ld lv 0 = some (.ref 174) → rx_ld lv 1 = some (.long r1.1) → rx_ld lv 3 = some (.int v4) → rs (rt_P sc fm) 400 F Lo 172 lv [] (hq false x51 y w) Q)) ?_ ?_ _ _ (wp_bind h) _ l0 l1 l3
        · intro s39 h lv l0 l1 l3
          refine rs_aldn wi_400_101 l0 ?_
          refine dq_gi wi_400_102 wf_400_409 tf_174_13 ?_
          refine rs_ifne (tg := 172) wi_400_105 ⟨by decide, by decide⟩ (fun q => ?_) (fun q => ?_)
          ·
            have h := wp_neg h q
            exact h _ l0 l1 l3
          ·
            have h := wp_pos h q
            refine rs_aldn wi_400_108 l0 ?_
            refine dq_gr wi_400_109 wf_400_84 tf_174_8 ?_
            refine rs_aldn wi_400_112 l0 ?_
            refine dq_gi wi_400_113 wf_400_471 tf_174_67 ?_
            obtain ⟨g40, h⟩ := wp_gd h
            refine dq_iald wi_400_116 t_178 g40 ?_
            refine rs_pure wi_400_117 rfl ?_
            refine rs_topi (v := 4) (by decide) ?_
            refine rs_icne (tg := 172) wi_400_118 ⟨by decide, by decide⟩ (fun q => ?_) (fun q => ?_)
            ·
              have h := wp_neg h q
              exact h _ l0 l1 l3
            ·
              have h := wp_pos h q
              refine rs_aldn wi_400_121 l0 ?_
              refine dq_gr wi_400_122 wf_400_90 tf_174_10 ?_
              refine rs_aldn wi_400_125 l0 ?_
              refine dq_gi wi_400_126 wf_400_471 tf_174_67 ?_
              obtain ⟨g41, h⟩ := wp_gd h
              refine dq_lald wi_400_129 t_180 g41 ?_
              refine rs_pure wi_400_130 rfl ?_
              refine rs_S wi_400_131 wc_400_578 (Or.inl rfl) rfl (Nat.le_trans (by decide) hF) (ml_le wm_399 (Nat.le_trans (by decide) hLo)) rfl (sp_399 (Nat.le_trans (by decide : 0 ≤ 6 - 1) (Nat.sub_le_sub_right hF 1)) (ml_sub wm_399 (Nat.le_trans (by decide : 0 ≤ 154 - 20) (Nat.sub_le_sub_right hLo 20))) (wp_bind h) (fun v42 h => rs_back1 ?_))
              refine rs_ifle (tg := 172) wi_400_134 ⟨by decide, by decide⟩ (fun q => ?_) (fun q => ?_)
              ·
                have h := wp_pos h q
                exact h _ l0 l1 l3
              ·
                have h := wp_neg h q
                refine rs_aldn wi_400_137 l0 ?_
                refine dq_gr wi_400_138 wf_400_137 tf_174_31 ?_
                refine rs_ildn wi_400_141 l3 ?_
                refine rs_pure wi_400_142 rfl ?_
                obtain ⟨g43, h⟩ := wp_gd h
                refine dq_iald wi_400_143 t_195 g43 ?_
                refine rs_aldn wi_400_144 l0 ?_
                refine dq_gr wi_400_145 wf_400_90 tf_174_10 ?_
                refine rs_aldn wi_400_148 l0 ?_
                refine dq_gi wi_400_149 wf_400_471 tf_174_67 ?_
                obtain ⟨g44, h⟩ := wp_gd h
                refine dq_lald wi_400_152 t_180 g44 ?_
                refine rs_pure wi_400_153 rfl ?_
                refine rs_S wi_400_154 wc_400_578 (Or.inl rfl) rfl (Nat.le_trans (by decide) hF) (ml_le wm_399 (Nat.le_trans (by decide) hLo)) rfl (sp_399 (Nat.le_trans (by decide : 0 ≤ 6 - 1) (Nat.sub_le_sub_right hF 1)) (ml_sub wm_399 (Nat.le_trans (by decide : 0 ≤ 154 - 20) (Nat.sub_le_sub_right hLo 20))) (wp_bind h) (fun v45 h => rs_back1 ?_))
                refine rs_pure wi_400_157 rfl ?_
                obtain ⟨g46, h⟩ := wp_gd h
                obtain ⟨c47, e48, h⟩ := wp_lt h
                refine dq_iast wi_400_158 t_195 g46 e48 ?_
                refine rs_aldn wi_400_159 l0 ?_
                refine rs_pure wi_400_160 rfl ?_
                refine dq_gi wi_400_161 wf_400_471 tf_174_67 ?_
                refine rs_pure wi_400_164 rfl ?_
                refine rs_topi (v := 1) (by decide) ?_
                refine rs_pure wi_400_165 rfl ?_
                obtain ⟨c49, e50, h⟩ := wp_lt h
                refine dq_pi wi_400_166 wp_400_471 tf_174_67 rfl rfl e50 ?_
                refine rs_goto (tg := 101) wi_400_169 ⟨by decide, by decide⟩ ?_
                exact h _ l0 l1 l3
        ·
          intro x51 h lv l0 l1 l3
          refine rs_aldn wi_400_172 l0 ?_
          refine dq_gr wi_400_173 wf_400_137 tf_174_31 ?_
          refine rs_ildn wi_400_176 l3 ?_
          obtain ⟨g52, h⟩ := wp_gd h
          refine dq_iald wi_400_177 t_195 g52 ?_
          refine rs_ifne (tg := 185) wi_400_178 ⟨by decide, by decide⟩ (fun q => ?_) (fun q => ?_)
          ·
            have h := wp_neg h q
            exact hj185 _ h _ l0 l1 l3
          ·
            have h := wp_pos h q
            refine rs_aldn wi_400_181 l0 ?_
            refine rs_V wi_400_182 wc_400_480 rfl (dq_isa tf_174_0 wa_15_103) (Nat.le_trans (by decide) hF) (ml_le wm_103 (Nat.le_trans (by decide) hLo)) rfl (sp_103 hw (Nat.le_trans (by decide : 1 ≤ 6 - 1) (Nat.sub_le_sub_right hF 1)) (ml_sub wm_103 (Nat.le_trans (by decide : 22 ≤ 154 - 20) (Nat.sub_le_sub_right hLo 20))) (wp_bind h) (fun r53 h => rs_back0 ?_))
            exact hj185 _ h _ l0 l1 l3
    refine rs_ifeq (tg := 77) wi_400_37 ⟨by decide, by decide⟩ (fun q => ?_) (fun q => ?_)
    ·
      have h := wp_pos h q
      exact hj77 _ h _ l0 l1 l3
    ·
      have h := wp_neg h q
      refine rs_pure wi_400_40 rfl ?_
      refine rs_topi (v := 1) (by decide) ?_
      refine dl_ist wi_400_41 rfl (fun lv l4 t54 => ?_)
      have l0 := t54 _ _ (by decide) (Or.inl rfl) l0
      have l1 := t54 _ _ (by decide) (Or.inr (by decide)) l1
      have l3 := t54 _ _ (by decide) (Or.inl rfl) l3
      refine whl_ex (A := fun s55 : Int32 × cS => ∀ lv, rx_ld lv 0 = some (.ref 174) → rx_ld lv 1 = some (.long r1.1) → rx_ld lv 3 = some (.int v4) → rx_ld lv 4 = some (.int s55.1) → rs (rt_P sc fm) 400 F Lo 43 lv [] (hq false s55.2 y w) Q) (B := (fun x59 : cS => ∀ lv, rx_ld lv 0 = some (.ref 174) → rx_ld lv 1 = some (.long r1.1) → rx_ld lv 3 = some (.int v4) → rs (rt_P sc fm) 400 F Lo 71 lv [] (hq false x59 y w) Q)) ?_ ?_ _ _ (wp_bind h) _ l0 l1 l3 l4
      · intro s55 h lv l0 l1 l3 l4
        refine rs_ild wi_400_43 l4 ?_
        refine rs_ifeq (tg := 71) wi_400_45 ⟨by decide, by decide⟩ (fun q => ?_) (fun q => ?_)
        ·
          have h := wp_pos h q
          exact h _ l0 l1 l3
        ·
          have h := wp_neg h q
          refine rs_aldn wi_400_48 l0 ?_
          refine dq_gi wi_400_49 wf_400_409 tf_174_13 ?_
          refine rs_ifne (tg := 71) wi_400_52 ⟨by decide, by decide⟩ (fun q => ?_) (fun q => ?_)
          ·
            have h := wp_neg h q
            exact h _ l0 l1 l3
          ·
            have h := wp_pos h q
            refine rs_aldn wi_400_55 l0 ?_
            refine rs_ildn wi_400_56 l3 ?_
            refine rs_V wi_400_57 wc_400_575 rfl (dq_isa tf_174_0 wa_15_401) (Nat.le_trans (by decide) hF) (ml_le wm_401 (Nat.le_trans (by decide) hLo)) rfl (sp_401 hw (Nat.le_trans (by decide : 3 ≤ 6 - 1) (Nat.sub_le_sub_right hF 1)) (ml_sub wm_401 (Nat.le_trans (by decide : 68 ≤ 154 - 25) (Nat.sub_le_sub_right hLo 25))) (wp_bind h) (fun r56 h => rs_back0 ?_))
            refine rs_aldn wi_400_60 l0 ?_
            refine rs_pure wi_400_61 rfl ?_
            refine rs_topi (v := 44) (by decide) ?_
            refine rs_V wi_400_63 wc_400_483 rfl (dq_isa tf_174_0 wa_15_379) (Nat.le_trans (by decide) hF) (ml_le wm_379 (Nat.le_trans (by decide) hLo)) rfl (sp_379 hw (Nat.le_trans (by decide : 1 ≤ 6 - 1) (Nat.sub_le_sub_right hF 1)) (ml_sub wm_379 (Nat.le_trans (by decide : 21 ≤ 154 - 21) (Nat.sub_le_sub_right hLo 21))) (wp_bind h) (fun r57 h => rs_back1 ?_))
            refine dl_ist wi_400_66 rfl (fun lv l4 t58 => ?_)
            have l0 := t58 _ _ (by decide) (Or.inl rfl) l0
            have l1 := t58 _ _ (by decide) (Or.inr (by decide)) l1
            have l3 := t58 _ _ (by decide) (Or.inl rfl) l3
            refine rs_goto (tg := 43) wi_400_68 ⟨by decide, by decide⟩ ?_
            exact h _ l0 l1 l3 l4
      ·
        intro x59 h lv l0 l1 l3
        refine rs_aldn wi_400_71 l0 ?_
        refine rs_pure wi_400_72 rfl ?_
        refine rs_topi (v := 41) (by decide) ?_
        refine rs_V wi_400_74 wc_400_521 rfl (dq_isa tf_174_0 wa_15_380) (Nat.le_trans (by decide) hF) (ml_le wm_380 (Nat.le_trans (by decide) hLo)) rfl (sp_380 hw (Nat.le_trans (by decide : 2 ≤ 6 - 1) (Nat.sub_le_sub_right hF 1)) (ml_sub wm_380 (Nat.le_trans (by decide : 42 ≤ 154 - 21) (Nat.sub_le_sub_right hLo 21))) (wp_bind h) (fun r60 h => rs_back0 ?_))
        exact hj77 _ h _ l0 l1 l3
  ·
    have h := wp_neg h q
    exact rs_vret wi_400_18 wr_400 (hQ r1.2 h)
theorem t_199 : ta false 199 0 6 := ⟨rfl, by decide, by decide⟩
theorem tf_174_36 : fo false 174 15 36 (.ref 199) := ⟨_, rfl, rfl, by decide, by decide⟩
theorem wc_402_432 : rx_ct (rt_P sc fm) 402 432 = some (0, 97, 2) := (by decide +kernel : rt_ct 402 432 = some (0, 97, 2))
theorem wc_402_462 : rx_ct (rt_P sc fm) 402 462 = some (0, 373, 1) := (by decide +kernel : rt_ct 402 462 = some (0, 373, 1))
theorem wc_402_480 : rx_ct (rt_P sc fm) 402 480 = some (0, 103, 0) := (by decide +kernel : rt_ct 402 480 = some (0, 103, 0))
theorem wc_402_490 : rx_ct (rt_P sc fm) 402 490 = some (0, 102, 1) := (by decide +kernel : rt_ct 402 490 = some (0, 102, 1))
theorem wc_402_505 : rx_ct (rt_P sc fm) 402 505 = some (0, 381, 0) := (by decide +kernel : rt_ct 402 505 = some (0, 381, 0))
theorem wc_402_517 : rx_ct (rt_P sc fm) 402 517 = some (0, 383, 2) := (by decide +kernel : rt_ct 402 517 = some (0, 383, 2))
theorem wc_402_521 : rx_ct (rt_P sc fm) 402 521 = some (0, 380, 1) := (by decide +kernel : rt_ct 402 521 = some (0, 380, 1))
theorem wc_402_581 : rx_ct (rt_P sc fm) 402 581 = some (0, 396, 4) := (by decide +kernel : rt_ct 402 581 = some (0, 396, 4))
theorem wf_402_146 : rx_ft (rt_P sc fm) 402 146 = some (15, 35) := (by decide +kernel : rt_ft 402 146 = some (15, 35))
theorem wf_402_149 : rx_ft (rt_P sc fm) 402 149 = some (15, 36) := (by decide +kernel : rt_ft 402 149 = some (15, 36))
theorem wf_402_409 : rx_ft (rt_P sc fm) 402 409 = some (15, 13) := (by decide +kernel : rt_ft 402 409 = some (15, 13))
theorem wf_402_453 : rx_ft (rt_P sc fm) 402 453 = some (15, 34) := (by decide +kernel : rt_ft 402 453 = some (15, 34))
theorem wf_402_471 : rx_ft (rt_P sc fm) 402 471 = some (15, 67) := (by decide +kernel : rt_ft 402 471 = some (15, 67))
theorem wf_402_87 : rx_ft (rt_P sc fm) 402 87 = some (15, 9) := (by decide +kernel : rt_ft 402 87 = some (15, 9))
theorem wi_402_0 : ri (rt_P sc fm) 402 0 (.aload_n 0) (1) := ri_of (by decide +kernel) rfl
theorem wi_402_1 : ri (rt_P sc fm) 402 1 (.aload_n 0) (2) := ri_of (by decide +kernel) rfl
theorem wi_402_10 : ri (rt_P sc fm) 402 10 (.lstore_n 1) (11) := ri_of (by decide +kernel) rfl
theorem wi_402_100 : ri (rt_P sc fm) 402 100 (.iconst 1) (101) := ri_of (by decide +kernel) rfl
theorem wi_402_101 : ri (rt_P sc fm) 402 101 (.iconst 0) (102) := ri_of (by decide +kernel) rfl
theorem wi_402_102 : ri (rt_P sc fm) 402 102 (.iconst 1) (103) := ri_of (by decide +kernel) rfl
theorem wi_402_103 : ri (rt_P sc fm) 402 103 (.invokevirtual 581) (106) := ri_of (by decide +kernel) rfl
theorem wi_402_106 : ri (rt_P sc fm) 402 106 (.aload_n 0) (107) := ri_of (by decide +kernel) rfl
theorem wi_402_107 : ri (rt_P sc fm) 402 107 (.bipush 59) (109) := ri_of (by decide +kernel) rfl
theorem wi_402_109 : ri (rt_P sc fm) 402 109 (.invokevirtual 521) (112) := ri_of (by decide +kernel) rfl
theorem wi_402_11 : ri (rt_P sc fm) 402 11 (.aload_n 0) (12) := ri_of (by decide +kernel) rfl
theorem wi_402_112 : ri (rt_P sc fm) 402 112 (.aload_n 0) (113) := ri_of (by decide +kernel) rfl
theorem wi_402_113 : ri (rt_P sc fm) 402 113 (.getfield 409) (116) := ri_of (by decide +kernel) rfl
theorem wi_402_116 : ri (rt_P sc fm) 402 116 (.ifCond .eq 4) (119) := ri_of (by decide +kernel) rfl
theorem wi_402_119 : ri (rt_P sc fm) 402 119 (.return_) (120) := ri_of (by decide +kernel) rfl
theorem wi_402_12 : ri (rt_P sc fm) 402 12 (.bipush 58) (14) := ri_of (by decide +kernel) rfl
theorem wi_402_120 : ri (rt_P sc fm) 402 120 (.aload_n 0) (121) := ri_of (by decide +kernel) rfl
theorem wi_402_121 : ri (rt_P sc fm) 402 121 (.getfield 146) (124) := ri_of (by decide +kernel) rfl
theorem wi_402_124 : ri (rt_P sc fm) 402 124 (.aload_n 0) (125) := ri_of (by decide +kernel) rfl
theorem wi_402_125 : ri (rt_P sc fm) 402 125 (.getfield 453) (128) := ri_of (by decide +kernel) rfl
theorem wi_402_128 : ri (rt_P sc fm) 402 128 (.lload_n 1) (129) := ri_of (by decide +kernel) rfl
theorem wi_402_129 : ri (rt_P sc fm) 402 129 (.lastore) (130) := ri_of (by decide +kernel) rfl
theorem wi_402_130 : ri (rt_P sc fm) 402 130 (.aload_n 0) (131) := ri_of (by decide +kernel) rfl
theorem wi_402_131 : ri (rt_P sc fm) 402 131 (.getfield 149) (134) := ri_of (by decide +kernel) rfl
theorem wi_402_134 : ri (rt_P sc fm) 402 134 (.aload_n 0) (135) := ri_of (by decide +kernel) rfl
theorem wi_402_135 : ri (rt_P sc fm) 402 135 (.getfield 453) (138) := ri_of (by decide +kernel) rfl
theorem wi_402_138 : ri (rt_P sc fm) 402 138 (.aload_n 0) (139) := ri_of (by decide +kernel) rfl
theorem wi_402_139 : ri (rt_P sc fm) 402 139 (.lload 4) (141) := ri_of (by decide +kernel) rfl
theorem wi_402_14 : ri (rt_P sc fm) 402 14 (.invokevirtual 521) (17) := ri_of (by decide +kernel) rfl
theorem wi_402_141 : ri (rt_P sc fm) 402 141 (.invokevirtual 462) (144) := ri_of (by decide +kernel) rfl
theorem wi_402_144 : ri (rt_P sc fm) 402 144 (.iastore) (145) := ri_of (by decide +kernel) rfl
theorem wi_402_145 : ri (rt_P sc fm) 402 145 (.aload_n 0) (146) := ri_of (by decide +kernel) rfl
theorem wi_402_146 : ri (rt_P sc fm) 402 146 (.dup) (147) := ri_of (by decide +kernel) rfl
theorem wi_402_147 : ri (rt_P sc fm) 402 147 (.getfield 453) (150) := ri_of (by decide +kernel) rfl
theorem wi_402_150 : ri (rt_P sc fm) 402 150 (.iconst 1) (151) := ri_of (by decide +kernel) rfl
theorem wi_402_151 : ri (rt_P sc fm) 402 151 (.iadd) (152) := ri_of (by decide +kernel) rfl
theorem wi_402_152 : ri (rt_P sc fm) 402 152 (.putfield 453) (155) := ri_of (by decide +kernel) rfl
theorem wi_402_155 : ri (rt_P sc fm) 402 155 (.return_) (156) := ri_of (by decide +kernel) rfl
theorem wi_402_17 : ri (rt_P sc fm) 402 17 (.aload_n 0) (18) := ri_of (by decide +kernel) rfl
theorem wi_402_18 : ri (rt_P sc fm) 402 18 (.getfield 409) (21) := ri_of (by decide +kernel) rfl
theorem wi_402_2 : ri (rt_P sc fm) 402 2 (.getfield 453) (5) := ri_of (by decide +kernel) rfl
theorem wi_402_21 : ri (rt_P sc fm) 402 21 (.ifCond .eq 4) (24) := ri_of (by decide +kernel) rfl
theorem wi_402_24 : ri (rt_P sc fm) 402 24 (.return_) (25) := ri_of (by decide +kernel) rfl
theorem wi_402_25 : ri (rt_P sc fm) 402 25 (.aload_n 0) (26) := ri_of (by decide +kernel) rfl
theorem wi_402_26 : ri (rt_P sc fm) 402 26 (.getfield 471) (29) := ri_of (by decide +kernel) rfl
theorem wi_402_29 : ri (rt_P sc fm) 402 29 (.istore_n 3) (30) := ri_of (by decide +kernel) rfl
theorem wi_402_30 : ri (rt_P sc fm) 402 30 (.aload_n 0) (31) := ri_of (by decide +kernel) rfl
theorem wi_402_31 : ri (rt_P sc fm) 402 31 (.invokevirtual 505) (34) := ri_of (by decide +kernel) rfl
theorem wi_402_34 : ri (rt_P sc fm) 402 34 (.lstore 4) (36) := ri_of (by decide +kernel) rfl
theorem wi_402_36 : ri (rt_P sc fm) 402 36 (.aload_n 0) (37) := ri_of (by decide +kernel) rfl
theorem wi_402_37 : ri (rt_P sc fm) 402 37 (.getfield 409) (40) := ri_of (by decide +kernel) rfl
theorem wi_402_40 : ri (rt_P sc fm) 402 40 (.ifCond .ne 23) (43) := ri_of (by decide +kernel) rfl
theorem wi_402_43 : ri (rt_P sc fm) 402 43 (.aload_n 0) (44) := ri_of (by decide +kernel) rfl
theorem wi_402_44 : ri (rt_P sc fm) 402 44 (.lload 4) (46) := ri_of (by decide +kernel) rfl
theorem wi_402_46 : ri (rt_P sc fm) 402 46 (.invokevirtual 462) (49) := ri_of (by decide +kernel) rfl
theorem wi_402_49 : ri (rt_P sc fm) 402 49 (.ifCond .ge 14) (52) := ri_of (by decide +kernel) rfl
theorem wi_402_5 : ri (rt_P sc fm) 402 5 (.bipush 6) (7) := ri_of (by decide +kernel) rfl
theorem wi_402_52 : ri (rt_P sc fm) 402 52 (.aload_n 0) (53) := ri_of (by decide +kernel) rfl
theorem wi_402_53 : ri (rt_P sc fm) 402 53 (.iconst 5) (54) := ri_of (by decide +kernel) rfl
theorem wi_402_54 : ri (rt_P sc fm) 402 54 (.aload_n 0) (55) := ri_of (by decide +kernel) rfl
theorem wi_402_55 : ri (rt_P sc fm) 402 55 (.getfield 87) (58) := ri_of (by decide +kernel) rfl
theorem wi_402_58 : ri (rt_P sc fm) 402 58 (.iload_n 3) (59) := ri_of (by decide +kernel) rfl
theorem wi_402_59 : ri (rt_P sc fm) 402 59 (.iaload) (60) := ri_of (by decide +kernel) rfl
theorem wi_402_60 : ri (rt_P sc fm) 402 60 (.invokevirtual 432) (63) := ri_of (by decide +kernel) rfl
theorem wi_402_63 : ri (rt_P sc fm) 402 63 (.aload_n 0) (64) := ri_of (by decide +kernel) rfl
theorem wi_402_64 : ri (rt_P sc fm) 402 64 (.getfield 409) (67) := ri_of (by decide +kernel) rfl
theorem wi_402_67 : ri (rt_P sc fm) 402 67 (.ifCond .ne 16) (70) := ri_of (by decide +kernel) rfl
theorem wi_402_7 : ri (rt_P sc fm) 402 7 (.invokevirtual 517) (10) := ri_of (by decide +kernel) rfl
theorem wi_402_70 : ri (rt_P sc fm) 402 70 (.aload_n 0) (71) := ri_of (by decide +kernel) rfl
theorem wi_402_71 : ri (rt_P sc fm) 402 71 (.bipush 7) (73) := ri_of (by decide +kernel) rfl
theorem wi_402_73 : ri (rt_P sc fm) 402 73 (.invokevirtual 490) (76) := ri_of (by decide +kernel) rfl
theorem wi_402_76 : ri (rt_P sc fm) 402 76 (.ifCond .ne 7) (79) := ri_of (by decide +kernel) rfl
theorem wi_402_79 : ri (rt_P sc fm) 402 79 (.aload_n 0) (80) := ri_of (by decide +kernel) rfl
theorem wi_402_80 : ri (rt_P sc fm) 402 80 (.invokevirtual 480) (83) := ri_of (by decide +kernel) rfl
theorem wi_402_83 : ri (rt_P sc fm) 402 83 (.aload_n 0) (84) := ri_of (by decide +kernel) rfl
theorem wi_402_84 : ri (rt_P sc fm) 402 84 (.getfield 409) (87) := ri_of (by decide +kernel) rfl
theorem wi_402_87 : ri (rt_P sc fm) 402 87 (.ifCond .eq 4) (90) := ri_of (by decide +kernel) rfl
theorem wi_402_90 : ri (rt_P sc fm) 402 90 (.return_) (91) := ri_of (by decide +kernel) rfl
theorem wi_402_91 : ri (rt_P sc fm) 402 91 (.aload_n 0) (92) := ri_of (by decide +kernel) rfl
theorem wi_402_92 : ri (rt_P sc fm) 402 92 (.sipush 1212) (95) := ri_of (by decide +kernel) rfl
theorem wi_402_95 : ri (rt_P sc fm) 402 95 (.aload_n 0) (96) := ri_of (by decide +kernel) rfl
theorem wi_402_96 : ri (rt_P sc fm) 402 96 (.getfield 453) (99) := ri_of (by decide +kernel) rfl
theorem wi_402_99 : ri (rt_P sc fm) 402 99 (.iadd) (100) := ri_of (by decide +kernel) rfl
theorem wp_402_453 : rx_pt (rt_P sc fm) 402 453 = some (15, 34, .int) := (by decide +kernel : rt_pt 402 453 = some (15, 34, .int))
theorem wr_402 : rx_rt (rt_P sc fm) 402 = none := (by decide +kernel : rt_rt 402 = none)
/-- MarkHouseModel.readMaker()V -/
def d_402 (n : Nat)  (c : cS) : Option (cS) :=
  Option.bind (d_383 n (c.1 174 34) 6 c) (fun r1 =>
  Option.bind (d_380 n 58 r1.2) (fun r3 =>
  if (r3.1 174 13) = 0 then
    lt ((r3.1 174 67) : Int32) (fun v5 =>
    Option.bind (d_381 n r3) (fun r7 =>
    jn (fun p9 : cS =>
      jn (fun p10 : cS =>
        if (p10.1 174 13) = 0 then
          Option.bind (d_396 n (1212 + (p10.1 174 34)) 1 0 1 p10) (fun r11 =>
          Option.bind (d_380 n 59 r11) (fun r12 =>
          if (r12.1 174 13) = 0 then
            if ib (r12.1 174 34) 6 then
            lt (pL r12 198 (ix (r12.1 174 34)) r1.1) (fun c14 =>
            Option.bind (d_373 n r7.1 c14) (fun v16 =>
            if ib (c14.1 174 34) 6 then
            lt (pI c14 199 (ix (c14.1 174 34)) v16) (fun c18 =>
            lt (pI c18 174 34 ((c18.1 174 34) + 1)) (fun c20 =>
            some c20))
            else none))
            else none
          else
            some r12))
        else
          some p10)
      (fun j83 =>
      if (p9.1 174 13) = 0 then
        Option.bind (d_102 n 7 p9) (fun r22 =>
        if r22.1 = 0 then
          Option.bind (d_103 n r22.2) (fun r23 =>
          j83 r23)
        else
          j83 r22.2)
      else
        j83 p9))
    (fun j63 =>
    if (r7.2.1 174 13) = 0 then
      Option.bind (d_373 n r7.1 r7.2) (fun v24 =>
      if 0 ≤ v24 then
        j63 r7.2
      else
        if ib v5 4001 then
        Option.bind (d_97 n 5 (r7.2.1 179 (ix v5)) r7.2) (fun r26 =>
        j63 r26)
        else none)
    else
      j63 r7.2)))
  else
    some r3))
set_option maxRecDepth 100000 in
set_option maxHeartbeats 4000000 in
theorem sp_402 {F Lo n : Nat}  {c y : cS} {w : cW} {K : cS → Prop} {Q : ((Option Value) ⊕ String) → List va_E → Prop} (hw : rOK fm w) (hF : 6 ≤ F) (hLo : 154 ≤ Lo)  (h : wp (d_402 n  c) K) (hQ : ∀ r, K r → Q (.inl none) (hq false r y w)) : rs (rt_P sc fm) 402 F Lo 0 [(0, .ref 174)] [] (hq false c y w) Q := by
  unfold d_402 at h
  obtain ⟨lv, elv⟩ : ∃ lv : rx_L, lv = [(0, .ref 174)] := ⟨_, rfl⟩
  rw [← elv]
  have l0 : rx_ld lv 0 = some (.ref 174) := by rw [elv]; rfl
  refine rs_aldn wi_402_0 l0 ?_
  refine rs_aldn wi_402_1 l0 ?_
  refine dq_gi wi_402_2 wf_402_453 tf_174_34 ?_
  refine rs_pure wi_402_5 rfl ?_
  refine rs_topi (v := 6) (by decide) ?_
  refine rs_V wi_402_7 wc_402_517 rfl (dq_isa tf_174_0 wa_15_383) (Nat.le_trans (by decide) hF) (ml_le wm_383 (Nat.le_trans (by decide) hLo)) rfl (sp_383 hw (Nat.le_trans (by decide : 3 ≤ 6 - 1) (Nat.sub_le_sub_right hF 1)) (ml_sub wm_383 (Nat.le_trans (by decide : 62 ≤ 154 - 25) (Nat.sub_le_sub_right hLo 25))) (wp_bind h) (fun r1 h => rs_back1 ?_))
  refine dl_lstn wi_402_10 rfl (fun lv l1 t2 => ?_)
  have l0 := t2 _ _ (by decide) (by decide) (Or.inl rfl) l0
  refine rs_aldn wi_402_11 l0 ?_
  refine rs_pure wi_402_12 rfl ?_
  refine rs_topi (v := 58) (by decide) ?_
  refine rs_V wi_402_14 wc_402_521 rfl (dq_isa tf_174_0 wa_15_380) (Nat.le_trans (by decide) hF) (ml_le wm_380 (Nat.le_trans (by decide) hLo)) rfl (sp_380 hw (Nat.le_trans (by decide : 2 ≤ 6 - 1) (Nat.sub_le_sub_right hF 1)) (ml_sub wm_380 (Nat.le_trans (by decide : 42 ≤ 154 - 21) (Nat.sub_le_sub_right hLo 21))) (wp_bind h) (fun r3 h => rs_back0 ?_))
  refine rs_aldn wi_402_17 l0 ?_
  refine dq_gi wi_402_18 wf_402_409 tf_174_13 ?_
  refine rs_ifeq (tg := 25) wi_402_21 ⟨by decide, by decide⟩ (fun q => ?_) (fun q => ?_)
  ·
    have h := wp_pos h q
    refine rs_aldn wi_402_25 l0 ?_
    refine dq_gi wi_402_26 wf_402_471 tf_174_67 ?_
    obtain ⟨v5, e6, h⟩ := wp_lt h
    refine rs_topi e6 ?_
    refine dl_istn wi_402_29 rfl (fun lv l3 t4 => ?_)
    have l0 := t4 _ _ (by decide) (Or.inl rfl) l0
    have l1 := t4 _ _ (by decide) (Or.inr (by decide)) l1
    refine rs_aldn wi_402_30 l0 ?_
    refine rs_V wi_402_31 wc_402_505 rfl (dq_isa tf_174_0 wa_15_381) (Nat.le_trans (by decide) hF) (ml_le wm_381 (Nat.le_trans (by decide) hLo)) rfl (sp_381 hw (Nat.le_trans (by decide : 2 ≤ 6 - 1) (Nat.sub_le_sub_right hF 1)) (ml_sub wm_381 (Nat.le_trans (by decide : 42 ≤ 154 - 20) (Nat.sub_le_sub_right hLo 20))) (wp_bind h) (fun r7 h => rs_back1 ?_))
    refine dl_lst wi_402_34 rfl (fun lv l4 t8 => ?_)
    have l0 := t8 _ _ (by decide) (by decide) (Or.inl rfl) l0
    have l1 := t8 _ _ (by decide) (by decide) (Or.inr (by decide)) l1
    have l3 := t8 _ _ (by decide) (by decide) (Or.inl rfl) l3
    refine rs_aldn wi_402_36 l0 ?_
    refine dq_gi wi_402_37 wf_402_409 tf_174_13 ?_
    refine wp_jn (B := fun p9 : cS => ∀ lv, rx_ld lv 0 = some (.ref 174) → rx_ld lv 1 = some (.long r1.1) → rx_ld lv 4 = some (.long r7.1) → rs (rt_P sc fm) 402 F Lo 63 lv [] (hq false p9 y w) Q) h (fun p9 h lv l0 l1 l4 => ?_) (fun j63 hj63 h => ?_)
    ·
      refine rs_aldn wi_402_63 l0 ?_
      refine dq_gi wi_402_64 wf_402_409 tf_174_13 ?_
      refine wp_jn (B := fun p10 : cS => ∀ lv, rx_ld lv 0 = some (.ref 174) → rx_ld lv 1 = some (.long r1.1) → rx_ld lv 4 = some (.long r7.1) → rs (rt_P sc fm) 402 F Lo 83 lv [] (hq false p10 y w) Q) h (fun p10 h lv l0 l1 l4 => ?_) (fun j83 hj83 h => ?_)
      ·
        refine rs_aldn wi_402_83 l0 ?_
        refine dq_gi wi_402_84 wf_402_409 tf_174_13 ?_
        refine rs_ifeq (tg := 91) wi_402_87 ⟨by decide, by decide⟩ (fun q => ?_) (fun q => ?_)
        ·
          have h := wp_pos h q
          refine rs_aldn wi_402_91 l0 ?_
          refine rs_pure wi_402_92 rfl ?_
          refine rs_topi (v := 1212) (by decide) ?_
          refine rs_aldn wi_402_95 l0 ?_
          refine dq_gi wi_402_96 wf_402_453 tf_174_34 ?_
          refine rs_pure wi_402_99 rfl ?_
          refine rs_pure wi_402_100 rfl ?_
          refine rs_topi (v := 1) (by decide) ?_
          refine rs_pure wi_402_101 rfl ?_
          refine rs_topi (v := 0) (by decide) ?_
          refine rs_pure wi_402_102 rfl ?_
          refine rs_topi (v := 1) (by decide) ?_
          refine rs_V wi_402_103 wc_402_581 rfl (dq_isa tf_174_0 wa_15_396) (Nat.le_trans (by decide) hF) (ml_le wm_396 (Nat.le_trans (by decide) hLo)) rfl (sp_396 hw (Nat.le_trans (by decide : 5 ≤ 6 - 1) (Nat.sub_le_sub_right hF 1)) (ml_sub wm_396 (Nat.le_trans (by decide : 130 ≤ 154 - 24) (Nat.sub_le_sub_right hLo 24))) (wp_bind h) (fun r11 h => rs_back0 ?_))
          refine rs_aldn wi_402_106 l0 ?_
          refine rs_pure wi_402_107 rfl ?_
          refine rs_topi (v := 59) (by decide) ?_
          refine rs_V wi_402_109 wc_402_521 rfl (dq_isa tf_174_0 wa_15_380) (Nat.le_trans (by decide) hF) (ml_le wm_380 (Nat.le_trans (by decide) hLo)) rfl (sp_380 hw (Nat.le_trans (by decide : 2 ≤ 6 - 1) (Nat.sub_le_sub_right hF 1)) (ml_sub wm_380 (Nat.le_trans (by decide : 42 ≤ 154 - 21) (Nat.sub_le_sub_right hLo 21))) (wp_bind h) (fun r12 h => rs_back0 ?_))
          refine rs_aldn wi_402_112 l0 ?_
          refine dq_gi wi_402_113 wf_402_409 tf_174_13 ?_
          refine rs_ifeq (tg := 120) wi_402_116 ⟨by decide, by decide⟩ (fun q => ?_) (fun q => ?_)
          ·
            have h := wp_pos h q
            refine rs_aldn wi_402_120 l0 ?_
            refine dq_gr wi_402_121 wf_402_146 tf_174_35 ?_
            refine rs_aldn wi_402_124 l0 ?_
            refine dq_gi wi_402_125 wf_402_453 tf_174_34 ?_
            refine rs_lldn wi_402_128 l1 ?_
            obtain ⟨g13, h⟩ := wp_gd h
            obtain ⟨c14, e15, h⟩ := wp_lt h
            refine dq_last wi_402_129 t_198 g13 e15 ?_
            refine rs_aldn wi_402_130 l0 ?_
            refine dq_gr wi_402_131 wf_402_149 tf_174_36 ?_
            refine rs_aldn wi_402_134 l0 ?_
            refine dq_gi wi_402_135 wf_402_453 tf_174_34 ?_
            refine rs_aldn wi_402_138 l0 ?_
            refine rs_lld wi_402_139 l4 ?_
            refine rs_V wi_402_141 wc_402_462 rfl (dq_isa tf_174_0 wa_15_373) (Nat.le_trans (by decide) hF) (ml_le wm_373 (Nat.le_trans (by decide) hLo)) rfl (sp_373 hw (Nat.le_trans (by decide : 0 ≤ 6 - 1) (Nat.sub_le_sub_right hF 1)) (ml_sub wm_373 (Nat.le_trans (by decide : 0 ≤ 154 - 23) (Nat.sub_le_sub_right hLo 23))) (wp_bind h) (fun v16 h => rs_back1 ?_))
            obtain ⟨g17, h⟩ := wp_gd h
            obtain ⟨c18, e19, h⟩ := wp_lt h
            refine dq_iast wi_402_144 t_199 g17 e19 ?_
            refine rs_aldn wi_402_145 l0 ?_
            refine rs_pure wi_402_146 rfl ?_
            refine dq_gi wi_402_147 wf_402_453 tf_174_34 ?_
            refine rs_pure wi_402_150 rfl ?_
            refine rs_topi (v := 1) (by decide) ?_
            refine rs_pure wi_402_151 rfl ?_
            obtain ⟨c20, e21, h⟩ := wp_lt h
            refine dq_pi wi_402_152 wp_402_453 tf_174_34 rfl rfl e21 ?_
            exact rs_vret wi_402_155 wr_402 (hQ c20 h)
          ·
            have h := wp_neg h q
            exact rs_vret wi_402_119 wr_402 (hQ r12 h)
        ·
          have h := wp_neg h q
          exact rs_vret wi_402_90 wr_402 (hQ p10 h)
      refine rs_ifne (tg := 83) wi_402_67 ⟨by decide, by decide⟩ (fun q => ?_) (fun q => ?_)
      ·
        have h := wp_neg h q
        exact hj83 _ h _ l0 l1 l4
      ·
        have h := wp_pos h q
        refine rs_aldn wi_402_70 l0 ?_
        refine rs_pure wi_402_71 rfl ?_
        refine rs_topi (v := 7) (by decide) ?_
        refine rs_V wi_402_73 wc_402_490 rfl (dq_isa tf_174_0 wa_15_102) (Nat.le_trans (by decide) hF) (ml_le wm_102 (Nat.le_trans (by decide) hLo)) rfl (sp_102 hw (Nat.le_trans (by decide : 1 ≤ 6 - 1) (Nat.sub_le_sub_right hF 1)) (ml_sub wm_102 (Nat.le_trans (by decide : 21 ≤ 154 - 21) (Nat.sub_le_sub_right hLo 21))) (wp_bind h) (fun r22 h => rs_back1 ?_))
        refine rs_ifne (tg := 83) wi_402_76 ⟨by decide, by decide⟩ (fun q => ?_) (fun q => ?_)
        ·
          have h := wp_neg h q
          exact hj83 _ h _ l0 l1 l4
        ·
          have h := wp_pos h q
          refine rs_aldn wi_402_79 l0 ?_
          refine rs_V wi_402_80 wc_402_480 rfl (dq_isa tf_174_0 wa_15_103) (Nat.le_trans (by decide) hF) (ml_le wm_103 (Nat.le_trans (by decide) hLo)) rfl (sp_103 hw (Nat.le_trans (by decide : 1 ≤ 6 - 1) (Nat.sub_le_sub_right hF 1)) (ml_sub wm_103 (Nat.le_trans (by decide : 22 ≤ 154 - 20) (Nat.sub_le_sub_right hLo 20))) (wp_bind h) (fun r23 h => rs_back0 ?_))
          exact hj83 _ h _ l0 l1 l4
    refine rs_ifne (tg := 63) wi_402_40 ⟨by decide, by decide⟩ (fun q => ?_) (fun q => ?_)
    ·
      have h := wp_neg h q
      exact hj63 _ h _ l0 l1 l4
    ·
      have h := wp_pos h q
      refine rs_aldn wi_402_43 l0 ?_
      refine rs_lld wi_402_44 l4 ?_
      refine rs_V wi_402_46 wc_402_462 rfl (dq_isa tf_174_0 wa_15_373) (Nat.le_trans (by decide) hF) (ml_le wm_373 (Nat.le_trans (by decide) hLo)) rfl (sp_373 hw (Nat.le_trans (by decide : 0 ≤ 6 - 1) (Nat.sub_le_sub_right hF 1)) (ml_sub wm_373 (Nat.le_trans (by decide : 0 ≤ 154 - 23) (Nat.sub_le_sub_right hLo 23))) (wp_bind h) (fun v24 h => rs_back1 ?_))
      refine rs_ifge (tg := 63) wi_402_49 ⟨by decide, by decide⟩ (fun q => ?_) (fun q => ?_)
      ·
        have h := wp_pos h q
        exact hj63 _ h _ l0 l1 l4
      ·
        have h := wp_neg h q
        refine rs_aldn wi_402_52 l0 ?_
        refine rs_pure wi_402_53 rfl ?_
        refine rs_topi (v := 5) (by decide) ?_
        refine rs_aldn wi_402_54 l0 ?_
        refine dq_gr wi_402_55 wf_402_87 tf_174_9 ?_
        refine rs_ildn wi_402_58 l3 ?_
        obtain ⟨g25, h⟩ := wp_gd h
        refine dq_iald wi_402_59 t_179 g25 ?_
        refine rs_V wi_402_60 wc_402_432 rfl (dq_isa tf_174_0 wa_15_97) (Nat.le_trans (by decide) hF) (ml_le wm_97 (Nat.le_trans (by decide) hLo)) rfl (sp_97 hw (Nat.le_trans (by decide : 0 ≤ 6 - 1) (Nat.sub_le_sub_right hF 1)) (ml_sub wm_97 (Nat.le_trans (by decide : 0 ≤ 154 - 22) (Nat.sub_le_sub_right hLo 22))) (wp_bind h) (fun r26 h => rs_back0 ?_))
        exact hj63 _ h _ l0 l1 l4
  ·
    have h := wp_neg h q
    exact rs_vret wi_402_24 wr_402 (hQ r3 h)
theorem t_202 : ta false 202 0 12 := ⟨rfl, by decide, by decide⟩
theorem t_204 : ta false 204 1 96 := ⟨rfl, by decide, by decide⟩
theorem t_205 : ta false 205 0 96 := ⟨rfl, by decide, by decide⟩
theorem tf_174_40 : fo false 174 15 40 (.ref 202) := ⟨_, rfl, rfl, by decide, by decide⟩
theorem tf_174_42 : fo false 174 15 42 (.ref 204) := ⟨_, rfl, rfl, by decide, by decide⟩
theorem tf_174_43 : fo false 174 15 43 (.ref 205) := ⟨_, rfl, rfl, by decide, by decide⟩
theorem wc_404_432 : rx_ct (rt_P sc fm) 404 432 = some (0, 97, 2) := (by decide +kernel : rt_ct 404 432 = some (0, 97, 2))
theorem wc_404_483 : rx_ct (rt_P sc fm) 404 483 = some (0, 379, 1) := (by decide +kernel : rt_ct 404 483 = some (0, 379, 1))
theorem wc_404_505 : rx_ct (rt_P sc fm) 404 505 = some (0, 381, 0) := (by decide +kernel : rt_ct 404 505 = some (0, 381, 0))
theorem wc_404_521 : rx_ct (rt_P sc fm) 404 521 = some (0, 380, 1) := (by decide +kernel : rt_ct 404 521 = some (0, 380, 1))
theorem wc_404_571 : rx_ct (rt_P sc fm) 404 571 = some (0, 382, 2) := (by decide +kernel : rt_ct 404 571 = some (0, 382, 2))
theorem wc_404_581 : rx_ct (rt_P sc fm) 404 581 = some (0, 396, 4) := (by decide +kernel : rt_ct 404 581 = some (0, 396, 4))
theorem wf_404_158 : rx_ft (rt_P sc fm) 404 158 = some (15, 40) := (by decide +kernel : rt_ft 404 158 = some (15, 40))
theorem wf_404_164 : rx_ft (rt_P sc fm) 404 164 = some (15, 42) := (by decide +kernel : rt_ft 404 164 = some (15, 42))
theorem wf_404_167 : rx_ft (rt_P sc fm) 404 167 = some (15, 43) := (by decide +kernel : rt_ft 404 167 = some (15, 43))
theorem wf_404_409 : rx_ft (rt_P sc fm) 404 409 = some (15, 13) := (by decide +kernel : rt_ft 404 409 = some (15, 13))
theorem wf_404_471 : rx_ft (rt_P sc fm) 404 471 = some (15, 67) := (by decide +kernel : rt_ft 404 471 = some (15, 67))
theorem wf_404_486 : rx_ft (rt_P sc fm) 404 486 = some (15, 68) := (by decide +kernel : rt_ft 404 486 = some (15, 68))
theorem wf_404_87 : rx_ft (rt_P sc fm) 404 87 = some (15, 9) := (by decide +kernel : rt_ft 404 87 = some (15, 9))
theorem wi_404_0 : ri (rt_P sc fm) 404 0 (.aload_n 0) (1) := ri_of (by decide +kernel) rfl
theorem wi_404_1 : ri (rt_P sc fm) 404 1 (.getfield 471) (4) := ri_of (by decide +kernel) rfl
theorem wi_404_10 : ri (rt_P sc fm) 404 10 (.aload_n 0) (11) := ri_of (by decide +kernel) rfl
theorem wi_404_101 : ri (rt_P sc fm) 404 101 (.iload_n 1) (102) := ri_of (by decide +kernel) rfl
theorem wi_404_102 : ri (rt_P sc fm) 404 102 (.iaload) (103) := ri_of (by decide +kernel) rfl
theorem wi_404_103 : ri (rt_P sc fm) 404 103 (.istore 5) (105) := ri_of (by decide +kernel) rfl
theorem wi_404_105 : ri (rt_P sc fm) 404 105 (.aload_n 0) (106) := ri_of (by decide +kernel) rfl
theorem wi_404_106 : ri (rt_P sc fm) 404 106 (.getfield 164) (109) := ri_of (by decide +kernel) rfl
theorem wi_404_109 : ri (rt_P sc fm) 404 109 (.bipush 8) (111) := ri_of (by decide +kernel) rfl
theorem wi_404_11 : ri (rt_P sc fm) 404 11 (.getfield 409) (14) := ri_of (by decide +kernel) rfl
theorem wi_404_111 : ri (rt_P sc fm) 404 111 (.iload_n 1) (112) := ri_of (by decide +kernel) rfl
theorem wi_404_112 : ri (rt_P sc fm) 404 112 (.imul) (113) := ri_of (by decide +kernel) rfl
theorem wi_404_113 : ri (rt_P sc fm) 404 113 (.iload 5) (115) := ri_of (by decide +kernel) rfl
theorem wi_404_115 : ri (rt_P sc fm) 404 115 (.iadd) (116) := ri_of (by decide +kernel) rfl
theorem wi_404_116 : ri (rt_P sc fm) 404 116 (.lload_n 3) (117) := ri_of (by decide +kernel) rfl
theorem wi_404_117 : ri (rt_P sc fm) 404 117 (.lastore) (118) := ri_of (by decide +kernel) rfl
theorem wi_404_118 : ri (rt_P sc fm) 404 118 (.aload_n 0) (119) := ri_of (by decide +kernel) rfl
theorem wi_404_119 : ri (rt_P sc fm) 404 119 (.getfield 167) (122) := ri_of (by decide +kernel) rfl
theorem wi_404_122 : ri (rt_P sc fm) 404 122 (.bipush 8) (124) := ri_of (by decide +kernel) rfl
theorem wi_404_124 : ri (rt_P sc fm) 404 124 (.iload_n 1) (125) := ri_of (by decide +kernel) rfl
theorem wi_404_125 : ri (rt_P sc fm) 404 125 (.imul) (126) := ri_of (by decide +kernel) rfl
theorem wi_404_126 : ri (rt_P sc fm) 404 126 (.iload 5) (128) := ri_of (by decide +kernel) rfl
theorem wi_404_128 : ri (rt_P sc fm) 404 128 (.iadd) (129) := ri_of (by decide +kernel) rfl
theorem wi_404_129 : ri (rt_P sc fm) 404 129 (.iconst 0) (130) := ri_of (by decide +kernel) rfl
theorem wi_404_130 : ri (rt_P sc fm) 404 130 (.iastore) (131) := ri_of (by decide +kernel) rfl
theorem wi_404_131 : ri (rt_P sc fm) 404 131 (.aload_n 0) (132) := ri_of (by decide +kernel) rfl
theorem wi_404_132 : ri (rt_P sc fm) 404 132 (.bipush 100) (134) := ri_of (by decide +kernel) rfl
theorem wi_404_134 : ri (rt_P sc fm) 404 134 (.iload_n 1) (135) := ri_of (by decide +kernel) rfl
theorem wi_404_135 : ri (rt_P sc fm) 404 135 (.imul) (136) := ri_of (by decide +kernel) rfl
theorem wi_404_136 : ri (rt_P sc fm) 404 136 (.iconst 1) (137) := ri_of (by decide +kernel) rfl
theorem wi_404_137 : ri (rt_P sc fm) 404 137 (.iadd) (138) := ri_of (by decide +kernel) rfl
theorem wi_404_138 : ri (rt_P sc fm) 404 138 (.iload 5) (140) := ri_of (by decide +kernel) rfl
theorem wi_404_14 : ri (rt_P sc fm) 404 14 (.ifCond .eq 4) (17) := ri_of (by decide +kernel) rfl
theorem wi_404_140 : ri (rt_P sc fm) 404 140 (.iadd) (141) := ri_of (by decide +kernel) rfl
theorem wi_404_141 : ri (rt_P sc fm) 404 141 (.iconst 2) (142) := ri_of (by decide +kernel) rfl
theorem wi_404_142 : ri (rt_P sc fm) 404 142 (.iconst 1) (143) := ri_of (by decide +kernel) rfl
theorem wi_404_143 : ri (rt_P sc fm) 404 143 (.iconst 0) (144) := ri_of (by decide +kernel) rfl
theorem wi_404_144 : ri (rt_P sc fm) 404 144 (.invokevirtual 581) (147) := ri_of (by decide +kernel) rfl
theorem wi_404_147 : ri (rt_P sc fm) 404 147 (.aload_n 0) (148) := ri_of (by decide +kernel) rfl
theorem wi_404_148 : ri (rt_P sc fm) 404 148 (.bipush 61) (150) := ri_of (by decide +kernel) rfl
theorem wi_404_150 : ri (rt_P sc fm) 404 150 (.invokevirtual 483) (153) := ri_of (by decide +kernel) rfl
theorem wi_404_153 : ri (rt_P sc fm) 404 153 (.ifCond .eq 26) (156) := ri_of (by decide +kernel) rfl
theorem wi_404_156 : ri (rt_P sc fm) 404 156 (.aload_n 0) (157) := ri_of (by decide +kernel) rfl
theorem wi_404_157 : ri (rt_P sc fm) 404 157 (.iconst 0) (158) := ri_of (by decide +kernel) rfl
theorem wi_404_158 : ri (rt_P sc fm) 404 158 (.iconst 1) (159) := ri_of (by decide +kernel) rfl
theorem wi_404_159 : ri (rt_P sc fm) 404 159 (.invokevirtual 571) (162) := ri_of (by decide +kernel) rfl
theorem wi_404_162 : ri (rt_P sc fm) 404 162 (.aload_n 0) (163) := ri_of (by decide +kernel) rfl
theorem wi_404_163 : ri (rt_P sc fm) 404 163 (.getfield 167) (166) := ri_of (by decide +kernel) rfl
theorem wi_404_166 : ri (rt_P sc fm) 404 166 (.bipush 8) (168) := ri_of (by decide +kernel) rfl
theorem wi_404_168 : ri (rt_P sc fm) 404 168 (.iload_n 1) (169) := ri_of (by decide +kernel) rfl
theorem wi_404_169 : ri (rt_P sc fm) 404 169 (.imul) (170) := ri_of (by decide +kernel) rfl
theorem wi_404_17 : ri (rt_P sc fm) 404 17 (.return_) (18) := ri_of (by decide +kernel) rfl
theorem wi_404_170 : ri (rt_P sc fm) 404 170 (.iload 5) (172) := ri_of (by decide +kernel) rfl
theorem wi_404_172 : ri (rt_P sc fm) 404 172 (.iadd) (173) := ri_of (by decide +kernel) rfl
theorem wi_404_173 : ri (rt_P sc fm) 404 173 (.aload_n 0) (174) := ri_of (by decide +kernel) rfl
theorem wi_404_174 : ri (rt_P sc fm) 404 174 (.getfield 486) (177) := ri_of (by decide +kernel) rfl
theorem wi_404_177 : ri (rt_P sc fm) 404 177 (.l2i) (178) := ri_of (by decide +kernel) rfl
theorem wi_404_178 : ri (rt_P sc fm) 404 178 (.iastore) (179) := ri_of (by decide +kernel) rfl
theorem wi_404_179 : ri (rt_P sc fm) 404 179 (.aload_n 0) (180) := ri_of (by decide +kernel) rfl
theorem wi_404_18 : ri (rt_P sc fm) 404 18 (.iconst 0) (19) := ri_of (by decide +kernel) rfl
theorem wi_404_180 : ri (rt_P sc fm) 404 180 (.bipush 59) (182) := ri_of (by decide +kernel) rfl
theorem wi_404_182 : ri (rt_P sc fm) 404 182 (.invokevirtual 521) (185) := ri_of (by decide +kernel) rfl
theorem wi_404_185 : ri (rt_P sc fm) 404 185 (.aload_n 0) (186) := ri_of (by decide +kernel) rfl
theorem wi_404_186 : ri (rt_P sc fm) 404 186 (.getfield 158) (189) := ri_of (by decide +kernel) rfl
theorem wi_404_189 : ri (rt_P sc fm) 404 189 (.iload_n 1) (190) := ri_of (by decide +kernel) rfl
theorem wi_404_19 : ri (rt_P sc fm) 404 19 (.istore 5) (21) := ri_of (by decide +kernel) rfl
theorem wi_404_190 : ri (rt_P sc fm) 404 190 (.dup2) (191) := ri_of (by decide +kernel) rfl
theorem wi_404_191 : ri (rt_P sc fm) 404 191 (.iaload) (192) := ri_of (by decide +kernel) rfl
theorem wi_404_192 : ri (rt_P sc fm) 404 192 (.iconst 1) (193) := ri_of (by decide +kernel) rfl
theorem wi_404_193 : ri (rt_P sc fm) 404 193 (.iadd) (194) := ri_of (by decide +kernel) rfl
theorem wi_404_194 : ri (rt_P sc fm) 404 194 (.iastore) (195) := ri_of (by decide +kernel) rfl
theorem wi_404_195 : ri (rt_P sc fm) 404 195 (.return_) (196) := ri_of (by decide +kernel) rfl
theorem wi_404_21 : ri (rt_P sc fm) 404 21 (.iload 5) (23) := ri_of (by decide +kernel) rfl
theorem wi_404_23 : ri (rt_P sc fm) 404 23 (.aload_n 0) (24) := ri_of (by decide +kernel) rfl
theorem wi_404_24 : ri (rt_P sc fm) 404 24 (.getfield 158) (27) := ri_of (by decide +kernel) rfl
theorem wi_404_27 : ri (rt_P sc fm) 404 27 (.iload_n 1) (28) := ri_of (by decide +kernel) rfl
theorem wi_404_28 : ri (rt_P sc fm) 404 28 (.iaload) (29) := ri_of (by decide +kernel) rfl
theorem wi_404_29 : ri (rt_P sc fm) 404 29 (.if_icmp .ge 37) (32) := ri_of (by decide +kernel) rfl
theorem wi_404_32 : ri (rt_P sc fm) 404 32 (.aload_n 0) (33) := ri_of (by decide +kernel) rfl
theorem wi_404_33 : ri (rt_P sc fm) 404 33 (.getfield 164) (36) := ri_of (by decide +kernel) rfl
theorem wi_404_36 : ri (rt_P sc fm) 404 36 (.bipush 8) (38) := ri_of (by decide +kernel) rfl
theorem wi_404_38 : ri (rt_P sc fm) 404 38 (.iload_n 1) (39) := ri_of (by decide +kernel) rfl
theorem wi_404_39 : ri (rt_P sc fm) 404 39 (.imul) (40) := ri_of (by decide +kernel) rfl
theorem wi_404_4 : ri (rt_P sc fm) 404 4 (.istore_n 2) (5) := ri_of (by decide +kernel) rfl
theorem wi_404_40 : ri (rt_P sc fm) 404 40 (.iload 5) (42) := ri_of (by decide +kernel) rfl
theorem wi_404_42 : ri (rt_P sc fm) 404 42 (.iadd) (43) := ri_of (by decide +kernel) rfl
theorem wi_404_43 : ri (rt_P sc fm) 404 43 (.laload) (44) := ri_of (by decide +kernel) rfl
theorem wi_404_44 : ri (rt_P sc fm) 404 44 (.lload_n 3) (45) := ri_of (by decide +kernel) rfl
theorem wi_404_45 : ri (rt_P sc fm) 404 45 (.lcmp) (46) := ri_of (by decide +kernel) rfl
theorem wi_404_46 : ri (rt_P sc fm) 404 46 (.ifCond .ne 14) (49) := ri_of (by decide +kernel) rfl
theorem wi_404_49 : ri (rt_P sc fm) 404 49 (.aload_n 0) (50) := ri_of (by decide +kernel) rfl
theorem wi_404_5 : ri (rt_P sc fm) 404 5 (.aload_n 0) (6) := ri_of (by decide +kernel) rfl
theorem wi_404_50 : ri (rt_P sc fm) 404 50 (.iconst 3) (51) := ri_of (by decide +kernel) rfl
theorem wi_404_51 : ri (rt_P sc fm) 404 51 (.aload_n 0) (52) := ri_of (by decide +kernel) rfl
theorem wi_404_52 : ri (rt_P sc fm) 404 52 (.getfield 87) (55) := ri_of (by decide +kernel) rfl
theorem wi_404_55 : ri (rt_P sc fm) 404 55 (.iload_n 2) (56) := ri_of (by decide +kernel) rfl
theorem wi_404_56 : ri (rt_P sc fm) 404 56 (.iaload) (57) := ri_of (by decide +kernel) rfl
theorem wi_404_57 : ri (rt_P sc fm) 404 57 (.invokevirtual 432) (60) := ri_of (by decide +kernel) rfl
theorem wi_404_6 : ri (rt_P sc fm) 404 6 (.invokevirtual 505) (9) := ri_of (by decide +kernel) rfl
theorem wi_404_60 : ri (rt_P sc fm) 404 60 (.iinc 5 1) (63) := ri_of (by decide +kernel) rfl
theorem wi_404_63 : ri (rt_P sc fm) 404 63 (.goto (-42)) (66) := ri_of (by decide +kernel) rfl
theorem wi_404_66 : ri (rt_P sc fm) 404 66 (.aload_n 0) (67) := ri_of (by decide +kernel) rfl
theorem wi_404_67 : ri (rt_P sc fm) 404 67 (.getfield 158) (70) := ri_of (by decide +kernel) rfl
theorem wi_404_70 : ri (rt_P sc fm) 404 70 (.iload_n 1) (71) := ri_of (by decide +kernel) rfl
theorem wi_404_71 : ri (rt_P sc fm) 404 71 (.iaload) (72) := ri_of (by decide +kernel) rfl
theorem wi_404_72 : ri (rt_P sc fm) 404 72 (.bipush 8) (74) := ri_of (by decide +kernel) rfl
theorem wi_404_74 : ri (rt_P sc fm) 404 74 (.if_icmp .ne 15) (77) := ri_of (by decide +kernel) rfl
theorem wi_404_77 : ri (rt_P sc fm) 404 77 (.aload_n 0) (78) := ri_of (by decide +kernel) rfl
theorem wi_404_78 : ri (rt_P sc fm) 404 78 (.bipush 6) (80) := ri_of (by decide +kernel) rfl
theorem wi_404_80 : ri (rt_P sc fm) 404 80 (.aload_n 0) (81) := ri_of (by decide +kernel) rfl
theorem wi_404_81 : ri (rt_P sc fm) 404 81 (.getfield 87) (84) := ri_of (by decide +kernel) rfl
theorem wi_404_84 : ri (rt_P sc fm) 404 84 (.iload_n 2) (85) := ri_of (by decide +kernel) rfl
theorem wi_404_85 : ri (rt_P sc fm) 404 85 (.iaload) (86) := ri_of (by decide +kernel) rfl
theorem wi_404_86 : ri (rt_P sc fm) 404 86 (.invokevirtual 432) (89) := ri_of (by decide +kernel) rfl
theorem wi_404_89 : ri (rt_P sc fm) 404 89 (.aload_n 0) (90) := ri_of (by decide +kernel) rfl
theorem wi_404_9 : ri (rt_P sc fm) 404 9 (.lstore_n 3) (10) := ri_of (by decide +kernel) rfl
theorem wi_404_90 : ri (rt_P sc fm) 404 90 (.getfield 409) (93) := ri_of (by decide +kernel) rfl
theorem wi_404_93 : ri (rt_P sc fm) 404 93 (.ifCond .eq 4) (96) := ri_of (by decide +kernel) rfl
theorem wi_404_96 : ri (rt_P sc fm) 404 96 (.return_) (97) := ri_of (by decide +kernel) rfl
theorem wi_404_97 : ri (rt_P sc fm) 404 97 (.aload_n 0) (98) := ri_of (by decide +kernel) rfl
theorem wi_404_98 : ri (rt_P sc fm) 404 98 (.getfield 158) (101) := ri_of (by decide +kernel) rfl
theorem wr_404 : rx_rt (rt_P sc fm) 404 = none := (by decide +kernel : rt_rt 404 = none)
/-- MarkHouseModel.readField(I)V -/
def d_404 (n : Nat) (a1 : Int32) (c : cS) : Option (cS) :=
  lt ((c.1 174 67) : Int32) (fun v2 =>
  Option.bind (d_381 n c) (fun r4 =>
  if (r4.2.1 174 13) = 0 then
    Option.bind (whl (R := (cS)) (fun s7 : Int32 × cS =>
      if ib a1 12 then
      if (s7.2.1 202 (ix a1)) ≤ s7.1 then
        some (.inr s7.2)
      else
        if ib ((8 * a1) + s7.1) 96 then
        jn (fun p10 : cS =>
          lt (s7.1 + 1 : Int32) (fun v12 =>
          some (.inl (v12, p10))))
        (fun j60 =>
        if (lg_cmp (s7.2.2 204 (ix ((8 * a1) + s7.1))) r4.1) = 0 then
          if ib v2 4001 then
          Option.bind (d_97 n 3 (s7.2.1 179 (ix v2)) s7.2) (fun r15 =>
          j60 r15)
          else none
        else
          j60 s7.2)
        else none
      else none) n (0, r4.2))
    (fun x16 : cS =>
      if ib a1 12 then
      jn (fun p18 : cS =>
        if (p18.1 174 13) = 0 then
          if ib a1 12 then
          lt ((p18.1 202 (ix a1)) : Int32) (fun v21 =>
          if ib ((8 * a1) + v21) 96 then
          lt (pL p18 204 (ix ((8 * a1) + v21)) r4.1) (fun c24 =>
          if ib ((8 * a1) + v21) 96 then
          lt (pI c24 205 (ix ((8 * a1) + v21)) 0) (fun c27 =>
          Option.bind (d_396 n (((100 * a1) + 1) + v21) 2 1 0 c27) (fun r29 =>
          Option.bind (d_379 n 61 r29) (fun r30 =>
          jn (fun p31 : cS =>
            Option.bind (d_380 n 59 p31) (fun r32 =>
            if ib a1 12 then
            if ib a1 12 then
            lt (pI r32 202 (ix a1) ((r32.1 202 (ix a1)) + 1)) (fun c35 =>
            some c35)
            else none
            else none))
          (fun j179 =>
          if r30.1 = 0 then
            j179 r30.2
          else
            Option.bind (d_382 n 0 1 r30.2) (fun r37 =>
            if ib ((8 * a1) + v21) 96 then
            lt (pI r37 205 (ix ((8 * a1) + v21)) (((r37.2 174 68) : Int64).toInt32)) (fun c39 =>
            j179 c39)
            else none)))))
          else none)
          else none)
          else none
        else
          some p18)
      (fun j89 =>
      if (x16.1 202 (ix a1)) = 8 then
        if ib v2 4001 then
        Option.bind (d_97 n 6 (x16.1 179 (ix v2)) x16) (fun r42 =>
        j89 r42)
        else none
      else
        j89 x16)
      else none)
  else
    some r4.2))
set_option maxRecDepth 100000 in
set_option maxHeartbeats 4000000 in
theorem sp_404 {F Lo n : Nat} {a1 : Int32} {c y : cS} {w : cW} {K : cS → Prop} {Q : ((Option Value) ⊕ String) → List va_E → Prop} (hw : rOK fm w) (hF : 6 ≤ F) (hLo : 154 ≤ Lo)  (h : wp (d_404 n a1 c) K) (hQ : ∀ r, K r → Q (.inl none) (hq false r y w)) : rs (rt_P sc fm) 404 F Lo 0 [(0, .ref 174), (1, .int a1)] [] (hq false c y w) Q := by
  unfold d_404 at h
  obtain ⟨lv, elv⟩ : ∃ lv : rx_L, lv = [(0, .ref 174), (1, .int a1)] := ⟨_, rfl⟩
  rw [← elv]
  have l0 : rx_ld lv 0 = some (.ref 174) := by rw [elv]; rfl
  have l1 : rx_ld lv 1 = some (.int a1) := by rw [elv]; rfl
  refine rs_aldn wi_404_0 l0 ?_
  refine dq_gi wi_404_1 wf_404_471 tf_174_67 ?_
  obtain ⟨v2, e3, h⟩ := wp_lt h
  refine rs_topi e3 ?_
  refine dl_istn wi_404_4 rfl (fun lv l2 t1 => ?_)
  have l0 := t1 _ _ (by decide) (Or.inl rfl) l0
  have l1 := t1 _ _ (by decide) (Or.inl rfl) l1
  refine rs_aldn wi_404_5 l0 ?_
  refine rs_V wi_404_6 wc_404_505 rfl (dq_isa tf_174_0 wa_15_381) (Nat.le_trans (by decide) hF) (ml_le wm_381 (Nat.le_trans (by decide) hLo)) rfl (sp_381 hw (Nat.le_trans (by decide : 2 ≤ 6 - 1) (Nat.sub_le_sub_right hF 1)) (ml_sub wm_381 (Nat.le_trans (by decide : 42 ≤ 154 - 20) (Nat.sub_le_sub_right hLo 20))) (wp_bind h) (fun r4 h => rs_back1 ?_))
  refine dl_lstn wi_404_9 rfl (fun lv l3 t5 => ?_)
  have l0 := t5 _ _ (by decide) (by decide) (Or.inl rfl) l0
  have l1 := t5 _ _ (by decide) (by decide) (Or.inl rfl) l1
  have l2 := t5 _ _ (by decide) (by decide) (Or.inl rfl) l2
  refine rs_aldn wi_404_10 l0 ?_
  refine dq_gi wi_404_11 wf_404_409 tf_174_13 ?_
  refine rs_ifeq (tg := 18) wi_404_14 ⟨by decide, by decide⟩ (fun q => ?_) (fun q => ?_)
  ·
    have h := wp_pos h q
    refine rs_pure wi_404_18 rfl ?_
    refine rs_topi (v := 0) (by decide) ?_
    refine dl_ist wi_404_19 rfl (fun lv l5 t6 => ?_)
    have l0 := t6 _ _ (by decide) (Or.inl rfl) l0
    have l1 := t6 _ _ (by decide) (Or.inl rfl) l1
    have l2 := t6 _ _ (by decide) (Or.inl rfl) l2
    have l3 := t6 _ _ (by decide) (Or.inr (by decide)) l3
    refine whl_ex (A := fun s7 : Int32 × cS => ∀ lv, rx_ld lv 0 = some (.ref 174) → rx_ld lv 1 = some (.int a1) → rx_ld lv 2 = some (.int v2) → rx_ld lv 3 = some (.long r4.1) → rx_ld lv 5 = some (.int s7.1) → rs (rt_P sc fm) 404 F Lo 21 lv [] (hq false s7.2 y w) Q) (B := (fun x16 : cS => ∀ lv, rx_ld lv 0 = some (.ref 174) → rx_ld lv 1 = some (.int a1) → rx_ld lv 2 = some (.int v2) → rx_ld lv 3 = some (.long r4.1) → rs (rt_P sc fm) 404 F Lo 66 lv [] (hq false x16 y w) Q)) ?_ ?_ _ _ (wp_bind h) _ l0 l1 l2 l3 l5
    · intro s7 h lv l0 l1 l2 l3 l5
      refine rs_ild wi_404_21 l5 ?_
      refine rs_aldn wi_404_23 l0 ?_
      refine dq_gr wi_404_24 wf_404_158 tf_174_40 ?_
      refine rs_ildn wi_404_27 l1 ?_
      obtain ⟨g8, h⟩ := wp_gd h
      refine dq_iald wi_404_28 t_202 g8 ?_
      refine rs_icge (tg := 66) wi_404_29 ⟨by decide, by decide⟩ (fun q => ?_) (fun q => ?_)
      ·
        have h := wp_pos h q
        exact h _ l0 l1 l2 l3
      ·
        have h := wp_neg h q
        refine rs_aldn wi_404_32 l0 ?_
        refine dq_gr wi_404_33 wf_404_164 tf_174_42 ?_
        refine rs_pure wi_404_36 rfl ?_
        refine rs_topi (v := 8) (by decide) ?_
        refine rs_ildn wi_404_38 l1 ?_
        refine rs_pure wi_404_39 rfl ?_
        refine rs_ild wi_404_40 l5 ?_
        refine rs_pure wi_404_42 rfl ?_
        obtain ⟨g9, h⟩ := wp_gd h
        refine dq_lald wi_404_43 t_204 g9 ?_
        refine rs_lldn wi_404_44 l3 ?_
        refine rs_pure wi_404_45 rfl ?_
        refine wp_jn (B := fun p10 : cS => ∀ lv, rx_ld lv 0 = some (.ref 174) → rx_ld lv 1 = some (.int a1) → rx_ld lv 2 = some (.int v2) → rx_ld lv 3 = some (.long r4.1) → rx_ld lv 5 = some (.int s7.1) → rs (rt_P sc fm) 404 F Lo 60 lv [] (hq false p10 y w) Q) h (fun p10 h lv l0 l1 l2 l3 l5 => ?_) (fun j60 hj60 h => ?_)
        ·
          obtain ⟨v12, e13, h⟩ := wp_lt h
          refine dl_inc wi_404_60 l5 rfl e13 (fun lv l5 t11 => ?_)
          have l0 := t11 _ _ (by decide) (Or.inl rfl) l0
          have l1 := t11 _ _ (by decide) (Or.inl rfl) l1
          have l2 := t11 _ _ (by decide) (Or.inl rfl) l2
          have l3 := t11 _ _ (by decide) (Or.inr (by decide)) l3
          refine rs_goto (tg := 21) wi_404_63 ⟨by decide, by decide⟩ ?_
          exact h _ l0 l1 l2 l3 l5
        refine rs_ifne (tg := 60) wi_404_46 ⟨by decide, by decide⟩ (fun q => ?_) (fun q => ?_)
        ·
          have h := wp_neg h q
          exact hj60 _ h _ l0 l1 l2 l3 l5
        ·
          have h := wp_pos h q
          refine rs_aldn wi_404_49 l0 ?_
          refine rs_pure wi_404_50 rfl ?_
          refine rs_topi (v := 3) (by decide) ?_
          refine rs_aldn wi_404_51 l0 ?_
          refine dq_gr wi_404_52 wf_404_87 tf_174_9 ?_
          refine rs_ildn wi_404_55 l2 ?_
          obtain ⟨g14, h⟩ := wp_gd h
          refine dq_iald wi_404_56 t_179 g14 ?_
          refine rs_V wi_404_57 wc_404_432 rfl (dq_isa tf_174_0 wa_15_97) (Nat.le_trans (by decide) hF) (ml_le wm_97 (Nat.le_trans (by decide) hLo)) rfl (sp_97 hw (Nat.le_trans (by decide : 0 ≤ 6 - 1) (Nat.sub_le_sub_right hF 1)) (ml_sub wm_97 (Nat.le_trans (by decide : 0 ≤ 154 - 22) (Nat.sub_le_sub_right hLo 22))) (wp_bind h) (fun r15 h => rs_back0 ?_))
          exact hj60 _ h _ l0 l1 l2 l3 l5
    ·
      intro x16 h lv l0 l1 l2 l3
      refine rs_aldn wi_404_66 l0 ?_
      refine dq_gr wi_404_67 wf_404_158 tf_174_40 ?_
      refine rs_ildn wi_404_70 l1 ?_
      obtain ⟨g17, h⟩ := wp_gd h
      refine dq_iald wi_404_71 t_202 g17 ?_
      refine rs_pure wi_404_72 rfl ?_
      refine rs_topi (v := 8) (by decide) ?_
      refine wp_jn (B := fun p18 : cS => ∀ lv, rx_ld lv 0 = some (.ref 174) → rx_ld lv 1 = some (.int a1) → rx_ld lv 3 = some (.long r4.1) → rs (rt_P sc fm) 404 F Lo 89 lv [] (hq false p18 y w) Q) h (fun p18 h lv l0 l1 l3 => ?_) (fun j89 hj89 h => ?_)
      ·
        refine rs_aldn wi_404_89 l0 ?_
        refine dq_gi wi_404_90 wf_404_409 tf_174_13 ?_
        refine rs_ifeq (tg := 97) wi_404_93 ⟨by decide, by decide⟩ (fun q => ?_) (fun q => ?_)
        ·
          have h := wp_pos h q
          refine rs_aldn wi_404_97 l0 ?_
          refine dq_gr wi_404_98 wf_404_158 tf_174_40 ?_
          refine rs_ildn wi_404_101 l1 ?_
          obtain ⟨g19, h⟩ := wp_gd h
          refine dq_iald wi_404_102 t_202 g19 ?_
          obtain ⟨v21, e22, h⟩ := wp_lt h
          refine rs_topi e22 ?_
          refine dl_ist wi_404_103 rfl (fun lv l5 t20 => ?_)
          have l0 := t20 _ _ (by decide) (Or.inl rfl) l0
          have l1 := t20 _ _ (by decide) (Or.inl rfl) l1
          have l3 := t20 _ _ (by decide) (Or.inr (by decide)) l3
          refine rs_aldn wi_404_105 l0 ?_
          refine dq_gr wi_404_106 wf_404_164 tf_174_42 ?_
          refine rs_pure wi_404_109 rfl ?_
          refine rs_topi (v := 8) (by decide) ?_
          refine rs_ildn wi_404_111 l1 ?_
          refine rs_pure wi_404_112 rfl ?_
          refine rs_ild wi_404_113 l5 ?_
          refine rs_pure wi_404_115 rfl ?_
          refine rs_lldn wi_404_116 l3 ?_
          obtain ⟨g23, h⟩ := wp_gd h
          obtain ⟨c24, e25, h⟩ := wp_lt h
          refine dq_last wi_404_117 t_204 g23 e25 ?_
          refine rs_aldn wi_404_118 l0 ?_
          refine dq_gr wi_404_119 wf_404_167 tf_174_43 ?_
          refine rs_pure wi_404_122 rfl ?_
          refine rs_topi (v := 8) (by decide) ?_
          refine rs_ildn wi_404_124 l1 ?_
          refine rs_pure wi_404_125 rfl ?_
          refine rs_ild wi_404_126 l5 ?_
          refine rs_pure wi_404_128 rfl ?_
          refine rs_pure wi_404_129 rfl ?_
          refine rs_topi (v := 0) (by decide) ?_
          obtain ⟨g26, h⟩ := wp_gd h
          obtain ⟨c27, e28, h⟩ := wp_lt h
          refine dq_iast wi_404_130 t_205 g26 e28 ?_
          refine rs_aldn wi_404_131 l0 ?_
          refine rs_pure wi_404_132 rfl ?_
          refine rs_topi (v := 100) (by decide) ?_
          refine rs_ildn wi_404_134 l1 ?_
          refine rs_pure wi_404_135 rfl ?_
          refine rs_pure wi_404_136 rfl ?_
          refine rs_topi (v := 1) (by decide) ?_
          refine rs_pure wi_404_137 rfl ?_
          refine rs_ild wi_404_138 l5 ?_
          refine rs_pure wi_404_140 rfl ?_
          refine rs_pure wi_404_141 rfl ?_
          refine rs_topi (v := 2) (by decide) ?_
          refine rs_pure wi_404_142 rfl ?_
          refine rs_topi (v := 1) (by decide) ?_
          refine rs_pure wi_404_143 rfl ?_
          refine rs_topi (v := 0) (by decide) ?_
          refine rs_V wi_404_144 wc_404_581 rfl (dq_isa tf_174_0 wa_15_396) (Nat.le_trans (by decide) hF) (ml_le wm_396 (Nat.le_trans (by decide) hLo)) rfl (sp_396 hw (Nat.le_trans (by decide : 5 ≤ 6 - 1) (Nat.sub_le_sub_right hF 1)) (ml_sub wm_396 (Nat.le_trans (by decide : 130 ≤ 154 - 24) (Nat.sub_le_sub_right hLo 24))) (wp_bind h) (fun r29 h => rs_back0 ?_))
          refine rs_aldn wi_404_147 l0 ?_
          refine rs_pure wi_404_148 rfl ?_
          refine rs_topi (v := 61) (by decide) ?_
          refine rs_V wi_404_150 wc_404_483 rfl (dq_isa tf_174_0 wa_15_379) (Nat.le_trans (by decide) hF) (ml_le wm_379 (Nat.le_trans (by decide) hLo)) rfl (sp_379 hw (Nat.le_trans (by decide : 1 ≤ 6 - 1) (Nat.sub_le_sub_right hF 1)) (ml_sub wm_379 (Nat.le_trans (by decide : 21 ≤ 154 - 21) (Nat.sub_le_sub_right hLo 21))) (wp_bind h) (fun r30 h => rs_back1 ?_))
          refine wp_jn (B := fun p31 : cS => ∀ lv, rx_ld lv 0 = some (.ref 174) → rx_ld lv 1 = some (.int a1) → rs (rt_P sc fm) 404 F Lo 179 lv [] (hq false p31 y w) Q) h (fun p31 h lv l0 l1 => ?_) (fun j179 hj179 h => ?_)
          ·
            refine rs_aldn wi_404_179 l0 ?_
            refine rs_pure wi_404_180 rfl ?_
            refine rs_topi (v := 59) (by decide) ?_
            refine rs_V wi_404_182 wc_404_521 rfl (dq_isa tf_174_0 wa_15_380) (Nat.le_trans (by decide) hF) (ml_le wm_380 (Nat.le_trans (by decide) hLo)) rfl (sp_380 hw (Nat.le_trans (by decide : 2 ≤ 6 - 1) (Nat.sub_le_sub_right hF 1)) (ml_sub wm_380 (Nat.le_trans (by decide : 42 ≤ 154 - 21) (Nat.sub_le_sub_right hLo 21))) (wp_bind h) (fun r32 h => rs_back0 ?_))
            refine rs_aldn wi_404_185 l0 ?_
            refine dq_gr wi_404_186 wf_404_158 tf_174_40 ?_
            refine rs_ildn wi_404_189 l1 ?_
            refine rs_pure wi_404_190 rfl ?_
            obtain ⟨g33, h⟩ := wp_gd h
            refine dq_iald wi_404_191 t_202 g33 ?_
            refine rs_pure wi_404_192 rfl ?_
            refine rs_topi (v := 1) (by decide) ?_
            refine rs_pure wi_404_193 rfl ?_
            obtain ⟨g34, h⟩ := wp_gd h
            obtain ⟨c35, e36, h⟩ := wp_lt h
            refine dq_iast wi_404_194 t_202 g34 e36 ?_
            exact rs_vret wi_404_195 wr_404 (hQ c35 h)
          refine rs_ifeq (tg := 179) wi_404_153 ⟨by decide, by decide⟩ (fun q => ?_) (fun q => ?_)
          ·
            have h := wp_pos h q
            exact hj179 _ h _ l0 l1
          ·
            have h := wp_neg h q
            refine rs_aldn wi_404_156 l0 ?_
            refine rs_pure wi_404_157 rfl ?_
            refine rs_topi (v := 0) (by decide) ?_
            refine rs_pure wi_404_158 rfl ?_
            refine rs_topi (v := 1) (by decide) ?_
            refine rs_V wi_404_159 wc_404_571 rfl (dq_isa tf_174_0 wa_15_382) (Nat.le_trans (by decide) hF) (ml_le wm_382 (Nat.le_trans (by decide) hLo)) rfl (sp_382 hw (Nat.le_trans (by decide : 2 ≤ 6 - 1) (Nat.sub_le_sub_right hF 1)) (ml_sub wm_382 (Nat.le_trans (by decide : 42 ≤ 154 - 26) (Nat.sub_le_sub_right hLo 26))) (wp_bind h) (fun r37 h => rs_back0 ?_))
            refine rs_aldn wi_404_162 l0 ?_
            refine dq_gr wi_404_163 wf_404_167 tf_174_43 ?_
            refine rs_pure wi_404_166 rfl ?_
            refine rs_topi (v := 8) (by decide) ?_
            refine rs_ildn wi_404_168 l1 ?_
            refine rs_pure wi_404_169 rfl ?_
            refine rs_ild wi_404_170 l5 ?_
            refine rs_pure wi_404_172 rfl ?_
            refine rs_aldn wi_404_173 l0 ?_
            refine dq_gl wi_404_174 wf_404_486 tf_174_68 ?_
            refine rs_pure wi_404_177 rfl ?_
            obtain ⟨g38, h⟩ := wp_gd h
            obtain ⟨c39, e40, h⟩ := wp_lt h
            refine dq_iast wi_404_178 t_205 g38 e40 ?_
            exact hj179 _ h _ l0 l1
        ·
          have h := wp_neg h q
          exact rs_vret wi_404_96 wr_404 (hQ p18 h)
      refine rs_icne (tg := 89) wi_404_74 ⟨by decide, by decide⟩ (fun q => ?_) (fun q => ?_)
      ·
        have h := wp_neg h q
        exact hj89 _ h _ l0 l1 l3
      ·
        have h := wp_pos h q
        refine rs_aldn wi_404_77 l0 ?_
        refine rs_pure wi_404_78 rfl ?_
        refine rs_topi (v := 6) (by decide) ?_
        refine rs_aldn wi_404_80 l0 ?_
        refine dq_gr wi_404_81 wf_404_87 tf_174_9 ?_
        refine rs_ildn wi_404_84 l2 ?_
        obtain ⟨g41, h⟩ := wp_gd h
        refine dq_iald wi_404_85 t_179 g41 ?_
        refine rs_V wi_404_86 wc_404_432 rfl (dq_isa tf_174_0 wa_15_97) (Nat.le_trans (by decide) hF) (ml_le wm_97 (Nat.le_trans (by decide) hLo)) rfl (sp_97 hw (Nat.le_trans (by decide : 0 ≤ 6 - 1) (Nat.sub_le_sub_right hF 1)) (ml_sub wm_97 (Nat.le_trans (by decide : 0 ≤ 154 - 22) (Nat.sub_le_sub_right hLo 22))) (wp_bind h) (fun r42 h => rs_back0 ?_))
        exact hj89 _ h _ l0 l1 l3
  ·
    have h := wp_neg h q
    exact rs_vret wi_404_17 wr_404 (hQ r4.2 h)
theorem t_207 : ta false 207 0 96 := ⟨rfl, by decide, by decide⟩
theorem t_208 : ta false 208 0 96 := ⟨rfl, by decide, by decide⟩
theorem t_209 : ta false 209 1 768 := ⟨rfl, by decide, by decide⟩
theorem tf_174_45 : fo false 174 15 45 (.ref 207) := ⟨_, rfl, rfl, by decide, by decide⟩
theorem tf_174_46 : fo false 174 15 46 (.ref 208) := ⟨_, rfl, rfl, by decide, by decide⟩
theorem tf_174_47 : fo false 174 15 47 (.ref 209) := ⟨_, rfl, rfl, by decide, by decide⟩
theorem wc_406_432 : rx_ct (rt_P sc fm) 406 432 = some (0, 97, 2) := (by decide +kernel : rt_ct 406 432 = some (0, 97, 2))
theorem wc_406_505 : rx_ct (rt_P sc fm) 406 505 = some (0, 381, 0) := (by decide +kernel : rt_ct 406 505 = some (0, 381, 0))
theorem wc_406_581 : rx_ct (rt_P sc fm) 406 581 = some (0, 396, 4) := (by decide +kernel : rt_ct 406 581 = some (0, 396, 4))
theorem wf_406_173 : rx_ft (rt_P sc fm) 406 173 = some (15, 45) := (by decide +kernel : rt_ft 406 173 = some (15, 45))
theorem wf_406_176 : rx_ft (rt_P sc fm) 406 176 = some (15, 46) := (by decide +kernel : rt_ft 406 176 = some (15, 46))
theorem wf_406_179 : rx_ft (rt_P sc fm) 406 179 = some (15, 47) := (by decide +kernel : rt_ft 406 179 = some (15, 47))
theorem wf_406_409 : rx_ft (rt_P sc fm) 406 409 = some (15, 13) := (by decide +kernel : rt_ft 406 409 = some (15, 13))
theorem wf_406_471 : rx_ft (rt_P sc fm) 406 471 = some (15, 67) := (by decide +kernel : rt_ft 406 471 = some (15, 67))
theorem wf_406_87 : rx_ft (rt_P sc fm) 406 87 = some (15, 9) := (by decide +kernel : rt_ft 406 87 = some (15, 9))
theorem wi_406_0 : ri (rt_P sc fm) 406 0 (.aload_n 0) (1) := ri_of (by decide +kernel) rfl
theorem wi_406_1 : ri (rt_P sc fm) 406 1 (.getfield 471) (4) := ri_of (by decide +kernel) rfl
theorem wi_406_102 : ri (rt_P sc fm) 406 102 (.bipush 8) (104) := ri_of (by decide +kernel) rfl
theorem wi_406_104 : ri (rt_P sc fm) 406 104 (.iload_n 1) (105) := ri_of (by decide +kernel) rfl
theorem wi_406_105 : ri (rt_P sc fm) 406 105 (.imul) (106) := ri_of (by decide +kernel) rfl
theorem wi_406_106 : ri (rt_P sc fm) 406 106 (.aload_n 0) (107) := ri_of (by decide +kernel) rfl
theorem wi_406_107 : ri (rt_P sc fm) 406 107 (.getfield 173) (110) := ri_of (by decide +kernel) rfl
theorem wi_406_11 : ri (rt_P sc fm) 406 11 (.aload_n 0) (12) := ri_of (by decide +kernel) rfl
theorem wi_406_110 : ri (rt_P sc fm) 406 110 (.iload_n 1) (111) := ri_of (by decide +kernel) rfl
theorem wi_406_111 : ri (rt_P sc fm) 406 111 (.iaload) (112) := ri_of (by decide +kernel) rfl
theorem wi_406_112 : ri (rt_P sc fm) 406 112 (.iadd) (113) := ri_of (by decide +kernel) rfl
theorem wi_406_113 : ri (rt_P sc fm) 406 113 (.lload 4) (115) := ri_of (by decide +kernel) rfl
theorem wi_406_115 : ri (rt_P sc fm) 406 115 (.lastore) (116) := ri_of (by decide +kernel) rfl
theorem wi_406_116 : ri (rt_P sc fm) 406 116 (.aload_n 0) (117) := ri_of (by decide +kernel) rfl
theorem wi_406_117 : ri (rt_P sc fm) 406 117 (.iload_n 2) (118) := ri_of (by decide +kernel) rfl
theorem wi_406_118 : ri (rt_P sc fm) 406 118 (.iconst 1) (119) := ri_of (by decide +kernel) rfl
theorem wi_406_119 : ri (rt_P sc fm) 406 119 (.iadd) (120) := ri_of (by decide +kernel) rfl
theorem wi_406_12 : ri (rt_P sc fm) 406 12 (.getfield 409) (15) := ri_of (by decide +kernel) rfl
theorem wi_406_120 : ri (rt_P sc fm) 406 120 (.aload_n 0) (121) := ri_of (by decide +kernel) rfl
theorem wi_406_121 : ri (rt_P sc fm) 406 121 (.getfield 173) (124) := ri_of (by decide +kernel) rfl
theorem wi_406_124 : ri (rt_P sc fm) 406 124 (.iload_n 1) (125) := ri_of (by decide +kernel) rfl
theorem wi_406_125 : ri (rt_P sc fm) 406 125 (.iaload) (126) := ri_of (by decide +kernel) rfl
theorem wi_406_126 : ri (rt_P sc fm) 406 126 (.iadd) (127) := ri_of (by decide +kernel) rfl
theorem wi_406_127 : ri (rt_P sc fm) 406 127 (.bipush 8) (129) := ri_of (by decide +kernel) rfl
theorem wi_406_129 : ri (rt_P sc fm) 406 129 (.iconst 1) (130) := ri_of (by decide +kernel) rfl
theorem wi_406_130 : ri (rt_P sc fm) 406 130 (.iconst 0) (131) := ri_of (by decide +kernel) rfl
theorem wi_406_131 : ri (rt_P sc fm) 406 131 (.invokevirtual 581) (134) := ri_of (by decide +kernel) rfl
theorem wi_406_134 : ri (rt_P sc fm) 406 134 (.aload_n 0) (135) := ri_of (by decide +kernel) rfl
theorem wi_406_135 : ri (rt_P sc fm) 406 135 (.getfield 173) (138) := ri_of (by decide +kernel) rfl
theorem wi_406_138 : ri (rt_P sc fm) 406 138 (.iload_n 1) (139) := ri_of (by decide +kernel) rfl
theorem wi_406_139 : ri (rt_P sc fm) 406 139 (.dup2) (140) := ri_of (by decide +kernel) rfl
theorem wi_406_140 : ri (rt_P sc fm) 406 140 (.iaload) (141) := ri_of (by decide +kernel) rfl
theorem wi_406_141 : ri (rt_P sc fm) 406 141 (.iconst 1) (142) := ri_of (by decide +kernel) rfl
theorem wi_406_142 : ri (rt_P sc fm) 406 142 (.iadd) (143) := ri_of (by decide +kernel) rfl
theorem wi_406_143 : ri (rt_P sc fm) 406 143 (.iastore) (144) := ri_of (by decide +kernel) rfl
theorem wi_406_144 : ri (rt_P sc fm) 406 144 (.aload_n 0) (145) := ri_of (by decide +kernel) rfl
theorem wi_406_145 : ri (rt_P sc fm) 406 145 (.getfield 176) (148) := ri_of (by decide +kernel) rfl
theorem wi_406_148 : ri (rt_P sc fm) 406 148 (.iload_n 1) (149) := ri_of (by decide +kernel) rfl
theorem wi_406_149 : ri (rt_P sc fm) 406 149 (.dup2) (150) := ri_of (by decide +kernel) rfl
theorem wi_406_15 : ri (rt_P sc fm) 406 15 (.ifCond .eq 4) (18) := ri_of (by decide +kernel) rfl
theorem wi_406_150 : ri (rt_P sc fm) 406 150 (.iaload) (151) := ri_of (by decide +kernel) rfl
theorem wi_406_151 : ri (rt_P sc fm) 406 151 (.iconst 1) (152) := ri_of (by decide +kernel) rfl
theorem wi_406_152 : ri (rt_P sc fm) 406 152 (.iadd) (153) := ri_of (by decide +kernel) rfl
theorem wi_406_153 : ri (rt_P sc fm) 406 153 (.iastore) (154) := ri_of (by decide +kernel) rfl
theorem wi_406_154 : ri (rt_P sc fm) 406 154 (.return_) (155) := ri_of (by decide +kernel) rfl
theorem wi_406_18 : ri (rt_P sc fm) 406 18 (.return_) (19) := ri_of (by decide +kernel) rfl
theorem wi_406_19 : ri (rt_P sc fm) 406 19 (.iconst 0) (20) := ri_of (by decide +kernel) rfl
theorem wi_406_20 : ri (rt_P sc fm) 406 20 (.istore 6) (22) := ri_of (by decide +kernel) rfl
theorem wi_406_22 : ri (rt_P sc fm) 406 22 (.iload 6) (24) := ri_of (by decide +kernel) rfl
theorem wi_406_24 : ri (rt_P sc fm) 406 24 (.aload_n 0) (25) := ri_of (by decide +kernel) rfl
theorem wi_406_25 : ri (rt_P sc fm) 406 25 (.getfield 173) (28) := ri_of (by decide +kernel) rfl
theorem wi_406_28 : ri (rt_P sc fm) 406 28 (.iload_n 1) (29) := ri_of (by decide +kernel) rfl
theorem wi_406_29 : ri (rt_P sc fm) 406 29 (.iaload) (30) := ri_of (by decide +kernel) rfl
theorem wi_406_30 : ri (rt_P sc fm) 406 30 (.if_icmp .ge 38) (33) := ri_of (by decide +kernel) rfl
theorem wi_406_33 : ri (rt_P sc fm) 406 33 (.aload_n 0) (34) := ri_of (by decide +kernel) rfl
theorem wi_406_34 : ri (rt_P sc fm) 406 34 (.getfield 179) (37) := ri_of (by decide +kernel) rfl
theorem wi_406_37 : ri (rt_P sc fm) 406 37 (.bipush 8) (39) := ri_of (by decide +kernel) rfl
theorem wi_406_39 : ri (rt_P sc fm) 406 39 (.iload_n 1) (40) := ri_of (by decide +kernel) rfl
theorem wi_406_4 : ri (rt_P sc fm) 406 4 (.istore_n 3) (5) := ri_of (by decide +kernel) rfl
theorem wi_406_40 : ri (rt_P sc fm) 406 40 (.imul) (41) := ri_of (by decide +kernel) rfl
theorem wi_406_41 : ri (rt_P sc fm) 406 41 (.iload 6) (43) := ri_of (by decide +kernel) rfl
theorem wi_406_43 : ri (rt_P sc fm) 406 43 (.iadd) (44) := ri_of (by decide +kernel) rfl
theorem wi_406_44 : ri (rt_P sc fm) 406 44 (.laload) (45) := ri_of (by decide +kernel) rfl
theorem wi_406_45 : ri (rt_P sc fm) 406 45 (.lload 4) (47) := ri_of (by decide +kernel) rfl
theorem wi_406_47 : ri (rt_P sc fm) 406 47 (.lcmp) (48) := ri_of (by decide +kernel) rfl
theorem wi_406_48 : ri (rt_P sc fm) 406 48 (.ifCond .ne 14) (51) := ri_of (by decide +kernel) rfl
theorem wi_406_5 : ri (rt_P sc fm) 406 5 (.aload_n 0) (6) := ri_of (by decide +kernel) rfl
theorem wi_406_51 : ri (rt_P sc fm) 406 51 (.aload_n 0) (52) := ri_of (by decide +kernel) rfl
theorem wi_406_52 : ri (rt_P sc fm) 406 52 (.iconst 3) (53) := ri_of (by decide +kernel) rfl
theorem wi_406_53 : ri (rt_P sc fm) 406 53 (.aload_n 0) (54) := ri_of (by decide +kernel) rfl
theorem wi_406_54 : ri (rt_P sc fm) 406 54 (.getfield 87) (57) := ri_of (by decide +kernel) rfl
theorem wi_406_57 : ri (rt_P sc fm) 406 57 (.iload_n 3) (58) := ri_of (by decide +kernel) rfl
theorem wi_406_58 : ri (rt_P sc fm) 406 58 (.iaload) (59) := ri_of (by decide +kernel) rfl
theorem wi_406_59 : ri (rt_P sc fm) 406 59 (.invokevirtual 432) (62) := ri_of (by decide +kernel) rfl
theorem wi_406_6 : ri (rt_P sc fm) 406 6 (.invokevirtual 505) (9) := ri_of (by decide +kernel) rfl
theorem wi_406_62 : ri (rt_P sc fm) 406 62 (.iinc 6 1) (65) := ri_of (by decide +kernel) rfl
theorem wi_406_65 : ri (rt_P sc fm) 406 65 (.goto (-43)) (68) := ri_of (by decide +kernel) rfl
theorem wi_406_68 : ri (rt_P sc fm) 406 68 (.aload_n 0) (69) := ri_of (by decide +kernel) rfl
theorem wi_406_69 : ri (rt_P sc fm) 406 69 (.getfield 173) (72) := ri_of (by decide +kernel) rfl
theorem wi_406_72 : ri (rt_P sc fm) 406 72 (.iload_n 1) (73) := ri_of (by decide +kernel) rfl
theorem wi_406_73 : ri (rt_P sc fm) 406 73 (.iaload) (74) := ri_of (by decide +kernel) rfl
theorem wi_406_74 : ri (rt_P sc fm) 406 74 (.iconst 4) (75) := ri_of (by decide +kernel) rfl
theorem wi_406_75 : ri (rt_P sc fm) 406 75 (.if_icmp .ne 15) (78) := ri_of (by decide +kernel) rfl
theorem wi_406_78 : ri (rt_P sc fm) 406 78 (.aload_n 0) (79) := ri_of (by decide +kernel) rfl
theorem wi_406_79 : ri (rt_P sc fm) 406 79 (.bipush 6) (81) := ri_of (by decide +kernel) rfl
theorem wi_406_81 : ri (rt_P sc fm) 406 81 (.aload_n 0) (82) := ri_of (by decide +kernel) rfl
theorem wi_406_82 : ri (rt_P sc fm) 406 82 (.getfield 87) (85) := ri_of (by decide +kernel) rfl
theorem wi_406_85 : ri (rt_P sc fm) 406 85 (.iload_n 3) (86) := ri_of (by decide +kernel) rfl
theorem wi_406_86 : ri (rt_P sc fm) 406 86 (.iaload) (87) := ri_of (by decide +kernel) rfl
theorem wi_406_87 : ri (rt_P sc fm) 406 87 (.invokevirtual 432) (90) := ri_of (by decide +kernel) rfl
theorem wi_406_9 : ri (rt_P sc fm) 406 9 (.lstore 4) (11) := ri_of (by decide +kernel) rfl
theorem wi_406_90 : ri (rt_P sc fm) 406 90 (.aload_n 0) (91) := ri_of (by decide +kernel) rfl
theorem wi_406_91 : ri (rt_P sc fm) 406 91 (.getfield 409) (94) := ri_of (by decide +kernel) rfl
theorem wi_406_94 : ri (rt_P sc fm) 406 94 (.ifCond .eq 4) (97) := ri_of (by decide +kernel) rfl
theorem wi_406_97 : ri (rt_P sc fm) 406 97 (.return_) (98) := ri_of (by decide +kernel) rfl
theorem wi_406_98 : ri (rt_P sc fm) 406 98 (.aload_n 0) (99) := ri_of (by decide +kernel) rfl
theorem wi_406_99 : ri (rt_P sc fm) 406 99 (.getfield 179) (102) := ri_of (by decide +kernel) rfl
theorem wr_406 : rx_rt (rt_P sc fm) 406 = none := (by decide +kernel : rt_rt 406 = none)
/-- MarkHouseModel.readParameter(II)V -/
def d_406 (n : Nat) (a1 : Int32) (a2 : Int32) (c : cS) : Option (cS) :=
  lt ((c.1 174 67) : Int32) (fun v2 =>
  Option.bind (d_381 n c) (fun r4 =>
  if (r4.2.1 174 13) = 0 then
    Option.bind (whl (R := (cS)) (fun s7 : Int32 × cS =>
      if ib a1 96 then
      if (s7.2.1 207 (ix a1)) ≤ s7.1 then
        some (.inr s7.2)
      else
        if ib ((8 * a1) + s7.1) 768 then
        jn (fun p10 : cS =>
          lt (s7.1 + 1 : Int32) (fun v12 =>
          some (.inl (v12, p10))))
        (fun j62 =>
        if (lg_cmp (s7.2.2 209 (ix ((8 * a1) + s7.1))) r4.1) = 0 then
          if ib v2 4001 then
          Option.bind (d_97 n 3 (s7.2.1 179 (ix v2)) s7.2) (fun r15 =>
          j62 r15)
          else none
        else
          j62 s7.2)
        else none
      else none) n (0, r4.2))
    (fun x16 : cS =>
      if ib a1 96 then
      jn (fun p18 : cS =>
        if (p18.1 174 13) = 0 then
          if ib a1 96 then
          if ib ((8 * a1) + (p18.1 207 (ix a1))) 768 then
          lt (pL p18 209 (ix ((8 * a1) + (p18.1 207 (ix a1)))) r4.1) (fun c21 =>
          if ib a1 96 then
          Option.bind (d_396 n ((a2 + 1) + (c21.1 207 (ix a1))) 8 1 0 c21) (fun r24 =>
          if ib a1 96 then
          if ib a1 96 then
          lt (pI r24 207 (ix a1) ((r24.1 207 (ix a1)) + 1)) (fun c27 =>
          if ib a1 96 then
          if ib a1 96 then
          lt (pI c27 208 (ix a1) ((c27.1 208 (ix a1)) + 1)) (fun c31 =>
          some c31)
          else none
          else none)
          else none
          else none)
          else none)
          else none
          else none
        else
          some p18)
      (fun j90 =>
      if (x16.1 207 (ix a1)) = 4 then
        if ib v2 4001 then
        Option.bind (d_97 n 6 (x16.1 179 (ix v2)) x16) (fun r34 =>
        j90 r34)
        else none
      else
        j90 x16)
      else none)
  else
    some r4.2))
set_option maxRecDepth 100000 in
set_option maxHeartbeats 4000000 in
theorem sp_406 {F Lo n : Nat} {a1 : Int32} {a2 : Int32} {c y : cS} {w : cW} {K : cS → Prop} {Q : ((Option Value) ⊕ String) → List va_E → Prop} (hw : rOK fm w) (hF : 6 ≤ F) (hLo : 154 ≤ Lo)  (h : wp (d_406 n a1 a2 c) K) (hQ : ∀ r, K r → Q (.inl none) (hq false r y w)) : rs (rt_P sc fm) 406 F Lo 0 [(0, .ref 174), (1, .int a1), (2, .int a2)] [] (hq false c y w) Q := by
  unfold d_406 at h
  obtain ⟨lv, elv⟩ : ∃ lv : rx_L, lv = [(0, .ref 174), (1, .int a1), (2, .int a2)] := ⟨_, rfl⟩
  rw [← elv]
  have l0 : rx_ld lv 0 = some (.ref 174) := by rw [elv]; rfl
  have l1 : rx_ld lv 1 = some (.int a1) := by rw [elv]; rfl
  have l2 : rx_ld lv 2 = some (.int a2) := by rw [elv]; rfl
  refine rs_aldn wi_406_0 l0 ?_
  refine dq_gi wi_406_1 wf_406_471 tf_174_67 ?_
  obtain ⟨v2, e3, h⟩ := wp_lt h
  refine rs_topi e3 ?_
  refine dl_istn wi_406_4 rfl (fun lv l3 t1 => ?_)
  have l0 := t1 _ _ (by decide) (Or.inl rfl) l0
  have l1 := t1 _ _ (by decide) (Or.inl rfl) l1
  have l2 := t1 _ _ (by decide) (Or.inl rfl) l2
  refine rs_aldn wi_406_5 l0 ?_
  refine rs_V wi_406_6 wc_406_505 rfl (dq_isa tf_174_0 wa_15_381) (Nat.le_trans (by decide) hF) (ml_le wm_381 (Nat.le_trans (by decide) hLo)) rfl (sp_381 hw (Nat.le_trans (by decide : 2 ≤ 6 - 1) (Nat.sub_le_sub_right hF 1)) (ml_sub wm_381 (Nat.le_trans (by decide : 42 ≤ 154 - 20) (Nat.sub_le_sub_right hLo 20))) (wp_bind h) (fun r4 h => rs_back1 ?_))
  refine dl_lst wi_406_9 rfl (fun lv l4 t5 => ?_)
  have l0 := t5 _ _ (by decide) (by decide) (Or.inl rfl) l0
  have l1 := t5 _ _ (by decide) (by decide) (Or.inl rfl) l1
  have l2 := t5 _ _ (by decide) (by decide) (Or.inl rfl) l2
  have l3 := t5 _ _ (by decide) (by decide) (Or.inl rfl) l3
  refine rs_aldn wi_406_11 l0 ?_
  refine dq_gi wi_406_12 wf_406_409 tf_174_13 ?_
  refine rs_ifeq (tg := 19) wi_406_15 ⟨by decide, by decide⟩ (fun q => ?_) (fun q => ?_)
  ·
    have h := wp_pos h q
    refine rs_pure wi_406_19 rfl ?_
    refine rs_topi (v := 0) (by decide) ?_
    refine dl_ist wi_406_20 rfl (fun lv l6 t6 => ?_)
    have l0 := t6 _ _ (by decide) (Or.inl rfl) l0
    have l1 := t6 _ _ (by decide) (Or.inl rfl) l1
    have l2 := t6 _ _ (by decide) (Or.inl rfl) l2
    have l3 := t6 _ _ (by decide) (Or.inl rfl) l3
    have l4 := t6 _ _ (by decide) (Or.inr (by decide)) l4
    refine whl_ex (A := fun s7 : Int32 × cS => ∀ lv, rx_ld lv 0 = some (.ref 174) → rx_ld lv 1 = some (.int a1) → rx_ld lv 2 = some (.int a2) → rx_ld lv 3 = some (.int v2) → rx_ld lv 4 = some (.long r4.1) → rx_ld lv 6 = some (.int s7.1) → rs (rt_P sc fm) 406 F Lo 22 lv [] (hq false s7.2 y w) Q) (B := (fun x16 : cS => ∀ lv, rx_ld lv 0 = some (.ref 174) → rx_ld lv 1 = some (.int a1) → rx_ld lv 2 = some (.int a2) → rx_ld lv 3 = some (.int v2) → rx_ld lv 4 = some (.long r4.1) → rs (rt_P sc fm) 406 F Lo 68 lv [] (hq false x16 y w) Q)) ?_ ?_ _ _ (wp_bind h) _ l0 l1 l2 l3 l4 l6
    · intro s7 h lv l0 l1 l2 l3 l4 l6
      refine rs_ild wi_406_22 l6 ?_
      refine rs_aldn wi_406_24 l0 ?_
      refine dq_gr wi_406_25 wf_406_173 tf_174_45 ?_
      refine rs_ildn wi_406_28 l1 ?_
      obtain ⟨g8, h⟩ := wp_gd h
      refine dq_iald wi_406_29 t_207 g8 ?_
      refine rs_icge (tg := 68) wi_406_30 ⟨by decide, by decide⟩ (fun q => ?_) (fun q => ?_)
      ·
        have h := wp_pos h q
        exact h _ l0 l1 l2 l3 l4
      ·
        have h := wp_neg h q
        refine rs_aldn wi_406_33 l0 ?_
        refine dq_gr wi_406_34 wf_406_179 tf_174_47 ?_
        refine rs_pure wi_406_37 rfl ?_
        refine rs_topi (v := 8) (by decide) ?_
        refine rs_ildn wi_406_39 l1 ?_
        refine rs_pure wi_406_40 rfl ?_
        refine rs_ild wi_406_41 l6 ?_
        refine rs_pure wi_406_43 rfl ?_
        obtain ⟨g9, h⟩ := wp_gd h
        refine dq_lald wi_406_44 t_209 g9 ?_
        refine rs_lld wi_406_45 l4 ?_
        refine rs_pure wi_406_47 rfl ?_
        refine wp_jn (B := fun p10 : cS => ∀ lv, rx_ld lv 0 = some (.ref 174) → rx_ld lv 1 = some (.int a1) → rx_ld lv 2 = some (.int a2) → rx_ld lv 3 = some (.int v2) → rx_ld lv 4 = some (.long r4.1) → rx_ld lv 6 = some (.int s7.1) → rs (rt_P sc fm) 406 F Lo 62 lv [] (hq false p10 y w) Q) h (fun p10 h lv l0 l1 l2 l3 l4 l6 => ?_) (fun j62 hj62 h => ?_)
        ·
          obtain ⟨v12, e13, h⟩ := wp_lt h
          refine dl_inc wi_406_62 l6 rfl e13 (fun lv l6 t11 => ?_)
          have l0 := t11 _ _ (by decide) (Or.inl rfl) l0
          have l1 := t11 _ _ (by decide) (Or.inl rfl) l1
          have l2 := t11 _ _ (by decide) (Or.inl rfl) l2
          have l3 := t11 _ _ (by decide) (Or.inl rfl) l3
          have l4 := t11 _ _ (by decide) (Or.inr (by decide)) l4
          refine rs_goto (tg := 22) wi_406_65 ⟨by decide, by decide⟩ ?_
          exact h _ l0 l1 l2 l3 l4 l6
        refine rs_ifne (tg := 62) wi_406_48 ⟨by decide, by decide⟩ (fun q => ?_) (fun q => ?_)
        ·
          have h := wp_neg h q
          exact hj62 _ h _ l0 l1 l2 l3 l4 l6
        ·
          have h := wp_pos h q
          refine rs_aldn wi_406_51 l0 ?_
          refine rs_pure wi_406_52 rfl ?_
          refine rs_topi (v := 3) (by decide) ?_
          refine rs_aldn wi_406_53 l0 ?_
          refine dq_gr wi_406_54 wf_406_87 tf_174_9 ?_
          refine rs_ildn wi_406_57 l3 ?_
          obtain ⟨g14, h⟩ := wp_gd h
          refine dq_iald wi_406_58 t_179 g14 ?_
          refine rs_V wi_406_59 wc_406_432 rfl (dq_isa tf_174_0 wa_15_97) (Nat.le_trans (by decide) hF) (ml_le wm_97 (Nat.le_trans (by decide) hLo)) rfl (sp_97 hw (Nat.le_trans (by decide : 0 ≤ 6 - 1) (Nat.sub_le_sub_right hF 1)) (ml_sub wm_97 (Nat.le_trans (by decide : 0 ≤ 154 - 22) (Nat.sub_le_sub_right hLo 22))) (wp_bind h) (fun r15 h => rs_back0 ?_))
          exact hj62 _ h _ l0 l1 l2 l3 l4 l6
    ·
      intro x16 h lv l0 l1 l2 l3 l4
      refine rs_aldn wi_406_68 l0 ?_
      refine dq_gr wi_406_69 wf_406_173 tf_174_45 ?_
      refine rs_ildn wi_406_72 l1 ?_
      obtain ⟨g17, h⟩ := wp_gd h
      refine dq_iald wi_406_73 t_207 g17 ?_
      refine rs_pure wi_406_74 rfl ?_
      refine rs_topi (v := 4) (by decide) ?_
      refine wp_jn (B := fun p18 : cS => ∀ lv, rx_ld lv 0 = some (.ref 174) → rx_ld lv 1 = some (.int a1) → rx_ld lv 2 = some (.int a2) → rx_ld lv 4 = some (.long r4.1) → rs (rt_P sc fm) 406 F Lo 90 lv [] (hq false p18 y w) Q) h (fun p18 h lv l0 l1 l2 l4 => ?_) (fun j90 hj90 h => ?_)
      ·
        refine rs_aldn wi_406_90 l0 ?_
        refine dq_gi wi_406_91 wf_406_409 tf_174_13 ?_
        refine rs_ifeq (tg := 98) wi_406_94 ⟨by decide, by decide⟩ (fun q => ?_) (fun q => ?_)
        ·
          have h := wp_pos h q
          refine rs_aldn wi_406_98 l0 ?_
          refine dq_gr wi_406_99 wf_406_179 tf_174_47 ?_
          refine rs_pure wi_406_102 rfl ?_
          refine rs_topi (v := 8) (by decide) ?_
          refine rs_ildn wi_406_104 l1 ?_
          refine rs_pure wi_406_105 rfl ?_
          refine rs_aldn wi_406_106 l0 ?_
          refine dq_gr wi_406_107 wf_406_173 tf_174_45 ?_
          refine rs_ildn wi_406_110 l1 ?_
          obtain ⟨g19, h⟩ := wp_gd h
          refine dq_iald wi_406_111 t_207 g19 ?_
          refine rs_pure wi_406_112 rfl ?_
          refine rs_lld wi_406_113 l4 ?_
          obtain ⟨g20, h⟩ := wp_gd h
          obtain ⟨c21, e22, h⟩ := wp_lt h
          refine dq_last wi_406_115 t_209 g20 e22 ?_
          refine rs_aldn wi_406_116 l0 ?_
          refine rs_ildn wi_406_117 l2 ?_
          refine rs_pure wi_406_118 rfl ?_
          refine rs_topi (v := 1) (by decide) ?_
          refine rs_pure wi_406_119 rfl ?_
          refine rs_aldn wi_406_120 l0 ?_
          refine dq_gr wi_406_121 wf_406_173 tf_174_45 ?_
          refine rs_ildn wi_406_124 l1 ?_
          obtain ⟨g23, h⟩ := wp_gd h
          refine dq_iald wi_406_125 t_207 g23 ?_
          refine rs_pure wi_406_126 rfl ?_
          refine rs_pure wi_406_127 rfl ?_
          refine rs_topi (v := 8) (by decide) ?_
          refine rs_pure wi_406_129 rfl ?_
          refine rs_topi (v := 1) (by decide) ?_
          refine rs_pure wi_406_130 rfl ?_
          refine rs_topi (v := 0) (by decide) ?_
          refine rs_V wi_406_131 wc_406_581 rfl (dq_isa tf_174_0 wa_15_396) (Nat.le_trans (by decide) hF) (ml_le wm_396 (Nat.le_trans (by decide) hLo)) rfl (sp_396 hw (Nat.le_trans (by decide : 5 ≤ 6 - 1) (Nat.sub_le_sub_right hF 1)) (ml_sub wm_396 (Nat.le_trans (by decide : 130 ≤ 154 - 24) (Nat.sub_le_sub_right hLo 24))) (wp_bind h) (fun r24 h => rs_back0 ?_))
          refine rs_aldn wi_406_134 l0 ?_
          refine dq_gr wi_406_135 wf_406_173 tf_174_45 ?_
          refine rs_ildn wi_406_138 l1 ?_
          refine rs_pure wi_406_139 rfl ?_
          obtain ⟨g25, h⟩ := wp_gd h
          refine dq_iald wi_406_140 t_207 g25 ?_
          refine rs_pure wi_406_141 rfl ?_
          refine rs_topi (v := 1) (by decide) ?_
          refine rs_pure wi_406_142 rfl ?_
          obtain ⟨g26, h⟩ := wp_gd h
          obtain ⟨c27, e28, h⟩ := wp_lt h
          refine dq_iast wi_406_143 t_207 g26 e28 ?_
          refine rs_aldn wi_406_144 l0 ?_
          refine dq_gr wi_406_145 wf_406_176 tf_174_46 ?_
          refine rs_ildn wi_406_148 l1 ?_
          refine rs_pure wi_406_149 rfl ?_
          obtain ⟨g29, h⟩ := wp_gd h
          refine dq_iald wi_406_150 t_208 g29 ?_
          refine rs_pure wi_406_151 rfl ?_
          refine rs_topi (v := 1) (by decide) ?_
          refine rs_pure wi_406_152 rfl ?_
          obtain ⟨g30, h⟩ := wp_gd h
          obtain ⟨c31, e32, h⟩ := wp_lt h
          refine dq_iast wi_406_153 t_208 g30 e32 ?_
          exact rs_vret wi_406_154 wr_406 (hQ c31 h)
        ·
          have h := wp_neg h q
          exact rs_vret wi_406_97 wr_406 (hQ p18 h)
      refine rs_icne (tg := 90) wi_406_75 ⟨by decide, by decide⟩ (fun q => ?_) (fun q => ?_)
      ·
        have h := wp_neg h q
        exact hj90 _ h _ l0 l1 l2 l4
      ·
        have h := wp_pos h q
        refine rs_aldn wi_406_78 l0 ?_
        refine rs_pure wi_406_79 rfl ?_
        refine rs_topi (v := 6) (by decide) ?_
        refine rs_aldn wi_406_81 l0 ?_
        refine dq_gr wi_406_82 wf_406_87 tf_174_9 ?_
        refine rs_ildn wi_406_85 l3 ?_
        obtain ⟨g33, h⟩ := wp_gd h
        refine dq_iald wi_406_86 t_179 g33 ?_
        refine rs_V wi_406_87 wc_406_432 rfl (dq_isa tf_174_0 wa_15_97) (Nat.le_trans (by decide) hF) (ml_le wm_97 (Nat.le_trans (by decide) hLo)) rfl (sp_97 hw (Nat.le_trans (by decide : 0 ≤ 6 - 1) (Nat.sub_le_sub_right hF 1)) (ml_sub wm_97 (Nat.le_trans (by decide : 0 ≤ 154 - 22) (Nat.sub_le_sub_right hLo 22))) (wp_bind h) (fun r34 h => rs_back0 ?_))
        exact hj90 _ h _ l0 l1 l2 l4
  ·
    have h := wp_neg h q
    exact rs_vret wi_406_18 wr_406 (hQ r4.2 h)
theorem t_214 : ta false 214 0 3840 := ⟨rfl, by decide, by decide⟩
theorem t_215 : ta false 215 0 3840 := ⟨rfl, by decide, by decide⟩
theorem tf_174_52 : fo false 174 15 52 (.ref 214) := ⟨_, rfl, rfl, by decide, by decide⟩
theorem tf_174_53 : fo false 174 15 53 (.ref 215) := ⟨_, rfl, rfl, by decide, by decide⟩
theorem wc_410_432 : rx_ct (rt_P sc fm) 410 432 = some (0, 97, 2) := (by decide +kernel : rt_ct 410 432 = some (0, 97, 2))
theorem wc_410_459 : rx_ct (rt_P sc fm) 410 459 = some (0, 372, 1) := (by decide +kernel : rt_ct 410 459 = some (0, 372, 1))
theorem wc_410_505 : rx_ct (rt_P sc fm) 410 505 = some (0, 381, 0) := (by decide +kernel : rt_ct 410 505 = some (0, 381, 0))
theorem wc_410_513 : rx_ct (rt_P sc fm) 410 513 = some (0, 377, 2) := (by decide +kernel : rt_ct 410 513 = some (0, 377, 2))
theorem wc_410_521 : rx_ct (rt_P sc fm) 410 521 = some (0, 380, 1) := (by decide +kernel : rt_ct 410 521 = some (0, 380, 1))
theorem wf_410_194 : rx_ft (rt_P sc fm) 410 194 = some (15, 52) := (by decide +kernel : rt_ft 410 194 = some (15, 52))
theorem wf_410_197 : rx_ft (rt_P sc fm) 410 197 = some (15, 53) := (by decide +kernel : rt_ft 410 197 = some (15, 53))
theorem wf_410_409 : rx_ft (rt_P sc fm) 410 409 = some (15, 13) := (by decide +kernel : rt_ft 410 409 = some (15, 13))
theorem wf_410_471 : rx_ft (rt_P sc fm) 410 471 = some (15, 67) := (by decide +kernel : rt_ft 410 471 = some (15, 67))
theorem wf_410_87 : rx_ft (rt_P sc fm) 410 87 = some (15, 9) := (by decide +kernel : rt_ft 410 87 = some (15, 9))
theorem wi_410_0 : ri (rt_P sc fm) 410 0 (.aload_n 0) (1) := ri_of (by decide +kernel) rfl
theorem wi_410_1 : ri (rt_P sc fm) 410 1 (.getfield 471) (4) := ri_of (by decide +kernel) rfl
theorem wi_410_10 : ri (rt_P sc fm) 410 10 (.aload_n 0) (11) := ri_of (by decide +kernel) rfl
theorem wi_410_100 : ri (rt_P sc fm) 410 100 (.iconst 5) (101) := ri_of (by decide +kernel) rfl
theorem wi_410_101 : ri (rt_P sc fm) 410 101 (.aload_n 0) (102) := ri_of (by decide +kernel) rfl
theorem wi_410_102 : ri (rt_P sc fm) 410 102 (.getfield 87) (105) := ri_of (by decide +kernel) rfl
theorem wi_410_105 : ri (rt_P sc fm) 410 105 (.iload_n 2) (106) := ri_of (by decide +kernel) rfl
theorem wi_410_106 : ri (rt_P sc fm) 410 106 (.iaload) (107) := ri_of (by decide +kernel) rfl
theorem wi_410_107 : ri (rt_P sc fm) 410 107 (.invokevirtual 432) (110) := ri_of (by decide +kernel) rfl
theorem wi_410_11 : ri (rt_P sc fm) 410 11 (.getfield 409) (14) := ri_of (by decide +kernel) rfl
theorem wi_410_110 : ri (rt_P sc fm) 410 110 (.return_) (111) := ri_of (by decide +kernel) rfl
theorem wi_410_14 : ri (rt_P sc fm) 410 14 (.ifCond .eq 4) (17) := ri_of (by decide +kernel) rfl
theorem wi_410_17 : ri (rt_P sc fm) 410 17 (.return_) (18) := ri_of (by decide +kernel) rfl
theorem wi_410_18 : ri (rt_P sc fm) 410 18 (.aload_n 0) (19) := ri_of (by decide +kernel) rfl
theorem wi_410_19 : ri (rt_P sc fm) 410 19 (.getfield 194) (22) := ri_of (by decide +kernel) rfl
theorem wi_410_22 : ri (rt_P sc fm) 410 22 (.iload_n 1) (23) := ri_of (by decide +kernel) rfl
theorem wi_410_23 : ri (rt_P sc fm) 410 23 (.aload_n 0) (24) := ri_of (by decide +kernel) rfl
theorem wi_410_24 : ri (rt_P sc fm) 410 24 (.lload_n 3) (25) := ri_of (by decide +kernel) rfl
theorem wi_410_25 : ri (rt_P sc fm) 410 25 (.invokevirtual 459) (28) := ri_of (by decide +kernel) rfl
theorem wi_410_28 : ri (rt_P sc fm) 410 28 (.iastore) (29) := ri_of (by decide +kernel) rfl
theorem wi_410_29 : ri (rt_P sc fm) 410 29 (.aload_n 0) (30) := ri_of (by decide +kernel) rfl
theorem wi_410_30 : ri (rt_P sc fm) 410 30 (.getfield 194) (33) := ri_of (by decide +kernel) rfl
theorem wi_410_33 : ri (rt_P sc fm) 410 33 (.iload_n 1) (34) := ri_of (by decide +kernel) rfl
theorem wi_410_34 : ri (rt_P sc fm) 410 34 (.iaload) (35) := ri_of (by decide +kernel) rfl
theorem wi_410_35 : ri (rt_P sc fm) 410 35 (.ifCond .ge 14) (38) := ri_of (by decide +kernel) rfl
theorem wi_410_38 : ri (rt_P sc fm) 410 38 (.aload_n 0) (39) := ri_of (by decide +kernel) rfl
theorem wi_410_39 : ri (rt_P sc fm) 410 39 (.iconst 5) (40) := ri_of (by decide +kernel) rfl
theorem wi_410_4 : ri (rt_P sc fm) 410 4 (.istore_n 2) (5) := ri_of (by decide +kernel) rfl
theorem wi_410_40 : ri (rt_P sc fm) 410 40 (.aload_n 0) (41) := ri_of (by decide +kernel) rfl
theorem wi_410_41 : ri (rt_P sc fm) 410 41 (.getfield 87) (44) := ri_of (by decide +kernel) rfl
theorem wi_410_44 : ri (rt_P sc fm) 410 44 (.iload_n 2) (45) := ri_of (by decide +kernel) rfl
theorem wi_410_45 : ri (rt_P sc fm) 410 45 (.iaload) (46) := ri_of (by decide +kernel) rfl
theorem wi_410_46 : ri (rt_P sc fm) 410 46 (.invokevirtual 432) (49) := ri_of (by decide +kernel) rfl
theorem wi_410_49 : ri (rt_P sc fm) 410 49 (.aload_n 0) (50) := ri_of (by decide +kernel) rfl
theorem wi_410_5 : ri (rt_P sc fm) 410 5 (.aload_n 0) (6) := ri_of (by decide +kernel) rfl
theorem wi_410_50 : ri (rt_P sc fm) 410 50 (.bipush 46) (52) := ri_of (by decide +kernel) rfl
theorem wi_410_52 : ri (rt_P sc fm) 410 52 (.invokevirtual 521) (55) := ri_of (by decide +kernel) rfl
theorem wi_410_55 : ri (rt_P sc fm) 410 55 (.aload_n 0) (56) := ri_of (by decide +kernel) rfl
theorem wi_410_56 : ri (rt_P sc fm) 410 56 (.getfield 471) (59) := ri_of (by decide +kernel) rfl
theorem wi_410_59 : ri (rt_P sc fm) 410 59 (.istore_n 2) (60) := ri_of (by decide +kernel) rfl
theorem wi_410_6 : ri (rt_P sc fm) 410 6 (.invokevirtual 505) (9) := ri_of (by decide +kernel) rfl
theorem wi_410_60 : ri (rt_P sc fm) 410 60 (.aload_n 0) (61) := ri_of (by decide +kernel) rfl
theorem wi_410_61 : ri (rt_P sc fm) 410 61 (.invokevirtual 505) (64) := ri_of (by decide +kernel) rfl
theorem wi_410_64 : ri (rt_P sc fm) 410 64 (.lstore_n 3) (65) := ri_of (by decide +kernel) rfl
theorem wi_410_65 : ri (rt_P sc fm) 410 65 (.aload_n 0) (66) := ri_of (by decide +kernel) rfl
theorem wi_410_66 : ri (rt_P sc fm) 410 66 (.getfield 409) (69) := ri_of (by decide +kernel) rfl
theorem wi_410_69 : ri (rt_P sc fm) 410 69 (.ifCond .eq 4) (72) := ri_of (by decide +kernel) rfl
theorem wi_410_72 : ri (rt_P sc fm) 410 72 (.return_) (73) := ri_of (by decide +kernel) rfl
theorem wi_410_73 : ri (rt_P sc fm) 410 73 (.aload_n 0) (74) := ri_of (by decide +kernel) rfl
theorem wi_410_74 : ri (rt_P sc fm) 410 74 (.getfield 197) (77) := ri_of (by decide +kernel) rfl
theorem wi_410_77 : ri (rt_P sc fm) 410 77 (.iload_n 1) (78) := ri_of (by decide +kernel) rfl
theorem wi_410_78 : ri (rt_P sc fm) 410 78 (.aload_n 0) (79) := ri_of (by decide +kernel) rfl
theorem wi_410_79 : ri (rt_P sc fm) 410 79 (.aload_n 0) (80) := ri_of (by decide +kernel) rfl
theorem wi_410_80 : ri (rt_P sc fm) 410 80 (.getfield 194) (83) := ri_of (by decide +kernel) rfl
theorem wi_410_83 : ri (rt_P sc fm) 410 83 (.iload_n 1) (84) := ri_of (by decide +kernel) rfl
theorem wi_410_84 : ri (rt_P sc fm) 410 84 (.iaload) (85) := ri_of (by decide +kernel) rfl
theorem wi_410_85 : ri (rt_P sc fm) 410 85 (.lload_n 3) (86) := ri_of (by decide +kernel) rfl
theorem wi_410_86 : ri (rt_P sc fm) 410 86 (.invokevirtual 513) (89) := ri_of (by decide +kernel) rfl
theorem wi_410_89 : ri (rt_P sc fm) 410 89 (.iastore) (90) := ri_of (by decide +kernel) rfl
theorem wi_410_9 : ri (rt_P sc fm) 410 9 (.lstore_n 3) (10) := ri_of (by decide +kernel) rfl
theorem wi_410_90 : ri (rt_P sc fm) 410 90 (.aload_n 0) (91) := ri_of (by decide +kernel) rfl
theorem wi_410_91 : ri (rt_P sc fm) 410 91 (.getfield 197) (94) := ri_of (by decide +kernel) rfl
theorem wi_410_94 : ri (rt_P sc fm) 410 94 (.iload_n 1) (95) := ri_of (by decide +kernel) rfl
theorem wi_410_95 : ri (rt_P sc fm) 410 95 (.iaload) (96) := ri_of (by decide +kernel) rfl
theorem wi_410_96 : ri (rt_P sc fm) 410 96 (.ifCond .ge 14) (99) := ri_of (by decide +kernel) rfl
theorem wi_410_99 : ri (rt_P sc fm) 410 99 (.aload_n 0) (100) := ri_of (by decide +kernel) rfl
theorem wr_410 : rx_rt (rt_P sc fm) 410 = none := (by decide +kernel : rt_rt 410 = none)
/-- MarkHouseModel.elementOfAct(I)V -/
def d_410 (n : Nat) (a1 : Int32) (c : cS) : Option (cS) :=
  lt ((c.1 174 67) : Int32) (fun v2 =>
  Option.bind (d_381 n c) (fun r4 =>
  if (r4.2.1 174 13) = 0 then
    Option.bind (d_372 n r4.1 r4.2) (fun v6 =>
    if ib a1 3840 then
    lt (pI r4.2 214 (ix a1) v6) (fun c8 =>
    if ib a1 3840 then
    jn (fun p11 : cS =>
      Option.bind (d_380 n 46 p11) (fun r12 =>
      lt ((r12.1 174 67) : Int32) (fun v14 =>
      Option.bind (d_381 n r12) (fun r16 =>
      if (r16.2.1 174 13) = 0 then
        if ib a1 3840 then
        Option.bind (d_377 n (r16.2.1 214 (ix a1)) r16.1 r16.2) (fun v19 =>
        if ib a1 3840 then
        lt (pI r16.2 215 (ix a1) v19) (fun c21 =>
        if ib a1 3840 then
        jn (fun p24 : cS =>
          some p24)
        (fun j110 =>
        if 0 ≤ (c21.1 215 (ix a1)) then
          j110 c21
        else
          if ib v14 4001 then
          Option.bind (d_97 n 5 (c21.1 179 (ix v14)) c21) (fun r26 =>
          j110 r26)
          else none)
        else none)
        else none)
        else none
      else
        some r16.2))))
    (fun j49 =>
    if 0 ≤ (c8.1 214 (ix a1)) then
      j49 c8
    else
      if ib v2 4001 then
      Option.bind (d_97 n 5 (c8.1 179 (ix v2)) c8) (fun r28 =>
      j49 r28)
      else none)
    else none)
    else none)
  else
    some r4.2))
set_option maxRecDepth 100000 in
set_option maxHeartbeats 4000000 in
theorem sp_410 {F Lo n : Nat} {a1 : Int32} {c y : cS} {w : cW} {K : cS → Prop} {Q : ((Option Value) ⊕ String) → List va_E → Prop} (hw : rOK fm w) (hF : 3 ≤ F) (hLo : 63 ≤ Lo)  (h : wp (d_410 n a1 c) K) (hQ : ∀ r, K r → Q (.inl none) (hq false r y w)) : rs (rt_P sc fm) 410 F Lo 0 [(0, .ref 174), (1, .int a1)] [] (hq false c y w) Q := by
  unfold d_410 at h
  obtain ⟨lv, elv⟩ : ∃ lv : rx_L, lv = [(0, .ref 174), (1, .int a1)] := ⟨_, rfl⟩
  rw [← elv]
  have l0 : rx_ld lv 0 = some (.ref 174) := by rw [elv]; rfl
  have l1 : rx_ld lv 1 = some (.int a1) := by rw [elv]; rfl
  refine rs_aldn wi_410_0 l0 ?_
  refine dq_gi wi_410_1 wf_410_471 tf_174_67 ?_
  obtain ⟨v2, e3, h⟩ := wp_lt h
  refine rs_topi e3 ?_
  refine dl_istn wi_410_4 rfl (fun lv l2 t1 => ?_)
  have l0 := t1 _ _ (by decide) (Or.inl rfl) l0
  have l1 := t1 _ _ (by decide) (Or.inl rfl) l1
  refine rs_aldn wi_410_5 l0 ?_
  refine rs_V wi_410_6 wc_410_505 rfl (dq_isa tf_174_0 wa_15_381) (Nat.le_trans (by decide) hF) (ml_le wm_381 (Nat.le_trans (by decide) hLo)) rfl (sp_381 hw (Nat.le_trans (by decide : 2 ≤ 3 - 1) (Nat.sub_le_sub_right hF 1)) (ml_sub wm_381 (Nat.le_trans (by decide : 42 ≤ 63 - 20) (Nat.sub_le_sub_right hLo 20))) (wp_bind h) (fun r4 h => rs_back1 ?_))
  refine dl_lstn wi_410_9 rfl (fun lv l3 t5 => ?_)
  have l0 := t5 _ _ (by decide) (by decide) (Or.inl rfl) l0
  have l1 := t5 _ _ (by decide) (by decide) (Or.inl rfl) l1
  have l2 := t5 _ _ (by decide) (by decide) (Or.inl rfl) l2
  refine rs_aldn wi_410_10 l0 ?_
  refine dq_gi wi_410_11 wf_410_409 tf_174_13 ?_
  refine rs_ifeq (tg := 18) wi_410_14 ⟨by decide, by decide⟩ (fun q => ?_) (fun q => ?_)
  ·
    have h := wp_pos h q
    refine rs_aldn wi_410_18 l0 ?_
    refine dq_gr wi_410_19 wf_410_194 tf_174_52 ?_
    refine rs_ildn wi_410_22 l1 ?_
    refine rs_aldn wi_410_23 l0 ?_
    refine rs_lldn wi_410_24 l3 ?_
    refine rs_V wi_410_25 wc_410_459 rfl (dq_isa tf_174_0 wa_15_372) (Nat.le_trans (by decide) hF) (ml_le wm_372 (Nat.le_trans (by decide) hLo)) rfl (sp_372 hw (Nat.le_trans (by decide : 0 ≤ 3 - 1) (Nat.sub_le_sub_right hF 1)) (ml_sub wm_372 (Nat.le_trans (by decide : 0 ≤ 63 - 23) (Nat.sub_le_sub_right hLo 23))) (wp_bind h) (fun v6 h => rs_back1 ?_))
    obtain ⟨g7, h⟩ := wp_gd h
    obtain ⟨c8, e9, h⟩ := wp_lt h
    refine dq_iast wi_410_28 t_214 g7 e9 ?_
    refine rs_aldn wi_410_29 l0 ?_
    refine dq_gr wi_410_30 wf_410_194 tf_174_52 ?_
    refine rs_ildn wi_410_33 l1 ?_
    obtain ⟨g10, h⟩ := wp_gd h
    refine dq_iald wi_410_34 t_214 g10 ?_
    refine wp_jn (B := fun p11 : cS => ∀ lv, rx_ld lv 0 = some (.ref 174) → rx_ld lv 1 = some (.int a1) → rs (rt_P sc fm) 410 F Lo 49 lv [] (hq false p11 y w) Q) h (fun p11 h lv l0 l1 => ?_) (fun j49 hj49 h => ?_)
    ·
      refine rs_aldn wi_410_49 l0 ?_
      refine rs_pure wi_410_50 rfl ?_
      refine rs_topi (v := 46) (by decide) ?_
      refine rs_V wi_410_52 wc_410_521 rfl (dq_isa tf_174_0 wa_15_380) (Nat.le_trans (by decide) hF) (ml_le wm_380 (Nat.le_trans (by decide) hLo)) rfl (sp_380 hw (Nat.le_trans (by decide : 2 ≤ 3 - 1) (Nat.sub_le_sub_right hF 1)) (ml_sub wm_380 (Nat.le_trans (by decide : 42 ≤ 63 - 21) (Nat.sub_le_sub_right hLo 21))) (wp_bind h) (fun r12 h => rs_back0 ?_))
      refine rs_aldn wi_410_55 l0 ?_
      refine dq_gi wi_410_56 wf_410_471 tf_174_67 ?_
      obtain ⟨v14, e15, h⟩ := wp_lt h
      refine rs_topi e15 ?_
      refine dl_istn wi_410_59 rfl (fun lv l2 t13 => ?_)
      have l0 := t13 _ _ (by decide) (Or.inl rfl) l0
      have l1 := t13 _ _ (by decide) (Or.inl rfl) l1
      refine rs_aldn wi_410_60 l0 ?_
      refine rs_V wi_410_61 wc_410_505 rfl (dq_isa tf_174_0 wa_15_381) (Nat.le_trans (by decide) hF) (ml_le wm_381 (Nat.le_trans (by decide) hLo)) rfl (sp_381 hw (Nat.le_trans (by decide : 2 ≤ 3 - 1) (Nat.sub_le_sub_right hF 1)) (ml_sub wm_381 (Nat.le_trans (by decide : 42 ≤ 63 - 20) (Nat.sub_le_sub_right hLo 20))) (wp_bind h) (fun r16 h => rs_back1 ?_))
      refine dl_lstn wi_410_64 rfl (fun lv l3 t17 => ?_)
      have l0 := t17 _ _ (by decide) (by decide) (Or.inl rfl) l0
      have l1 := t17 _ _ (by decide) (by decide) (Or.inl rfl) l1
      have l2 := t17 _ _ (by decide) (by decide) (Or.inl rfl) l2
      refine rs_aldn wi_410_65 l0 ?_
      refine dq_gi wi_410_66 wf_410_409 tf_174_13 ?_
      refine rs_ifeq (tg := 73) wi_410_69 ⟨by decide, by decide⟩ (fun q => ?_) (fun q => ?_)
      ·
        have h := wp_pos h q
        refine rs_aldn wi_410_73 l0 ?_
        refine dq_gr wi_410_74 wf_410_197 tf_174_53 ?_
        refine rs_ildn wi_410_77 l1 ?_
        refine rs_aldn wi_410_78 l0 ?_
        refine rs_aldn wi_410_79 l0 ?_
        refine dq_gr wi_410_80 wf_410_194 tf_174_52 ?_
        refine rs_ildn wi_410_83 l1 ?_
        obtain ⟨g18, h⟩ := wp_gd h
        refine dq_iald wi_410_84 t_214 g18 ?_
        refine rs_lldn wi_410_85 l3 ?_
        refine rs_V wi_410_86 wc_410_513 rfl (dq_isa tf_174_0 wa_15_377) (Nat.le_trans (by decide) hF) (ml_le wm_377 (Nat.le_trans (by decide) hLo)) rfl (sp_377 hw (Nat.le_trans (by decide : 0 ≤ 3 - 1) (Nat.sub_le_sub_right hF 1)) (ml_sub wm_377 (Nat.le_trans (by decide : 0 ≤ 63 - 24) (Nat.sub_le_sub_right hLo 24))) (wp_bind h) (fun v19 h => rs_back1 ?_))
        obtain ⟨g20, h⟩ := wp_gd h
        obtain ⟨c21, e22, h⟩ := wp_lt h
        refine dq_iast wi_410_89 t_215 g20 e22 ?_
        refine rs_aldn wi_410_90 l0 ?_
        refine dq_gr wi_410_91 wf_410_197 tf_174_53 ?_
        refine rs_ildn wi_410_94 l1 ?_
        obtain ⟨g23, h⟩ := wp_gd h
        refine dq_iald wi_410_95 t_215 g23 ?_
        refine wp_jn (B := fun p24 : cS => ∀ lv, rs (rt_P sc fm) 410 F Lo 110 lv [] (hq false p24 y w) Q) h (fun p24 h lv => ?_) (fun j110 hj110 h => ?_)
        ·
          exact rs_vret wi_410_110 wr_410 (hQ p24 h)
        refine rs_ifge (tg := 110) wi_410_96 ⟨by decide, by decide⟩ (fun q => ?_) (fun q => ?_)
        ·
          have h := wp_pos h q
          exact hj110 _ h _
        ·
          have h := wp_neg h q
          refine rs_aldn wi_410_99 l0 ?_
          refine rs_pure wi_410_100 rfl ?_
          refine rs_topi (v := 5) (by decide) ?_
          refine rs_aldn wi_410_101 l0 ?_
          refine dq_gr wi_410_102 wf_410_87 tf_174_9 ?_
          refine rs_ildn wi_410_105 l2 ?_
          obtain ⟨g25, h⟩ := wp_gd h
          refine dq_iald wi_410_106 t_179 g25 ?_
          refine rs_V wi_410_107 wc_410_432 rfl (dq_isa tf_174_0 wa_15_97) (Nat.le_trans (by decide) hF) (ml_le wm_97 (Nat.le_trans (by decide) hLo)) rfl (sp_97 hw (Nat.le_trans (by decide : 0 ≤ 3 - 1) (Nat.sub_le_sub_right hF 1)) (ml_sub wm_97 (Nat.le_trans (by decide : 0 ≤ 63 - 22) (Nat.sub_le_sub_right hLo 22))) (wp_bind h) (fun r26 h => rs_back0 ?_))
          exact hj110 _ h _
      ·
        have h := wp_neg h q
        exact rs_vret wi_410_72 wr_410 (hQ r16.2 h)
    refine rs_ifge (tg := 49) wi_410_35 ⟨by decide, by decide⟩ (fun q => ?_) (fun q => ?_)
    ·
      have h := wp_pos h q
      exact hj49 _ h _ l0 l1
    ·
      have h := wp_neg h q
      refine rs_aldn wi_410_38 l0 ?_
      refine rs_pure wi_410_39 rfl ?_
      refine rs_topi (v := 5) (by decide) ?_
      refine rs_aldn wi_410_40 l0 ?_
      refine dq_gr wi_410_41 wf_410_87 tf_174_9 ?_
      refine rs_ildn wi_410_44 l2 ?_
      obtain ⟨g27, h⟩ := wp_gd h
      refine dq_iald wi_410_45 t_179 g27 ?_
      refine rs_V wi_410_46 wc_410_432 rfl (dq_isa tf_174_0 wa_15_97) (Nat.le_trans (by decide) hF) (ml_le wm_97 (Nat.le_trans (by decide) hLo)) rfl (sp_97 hw (Nat.le_trans (by decide : 0 ≤ 3 - 1) (Nat.sub_le_sub_right hF 1)) (ml_sub wm_97 (Nat.le_trans (by decide : 0 ≤ 63 - 22) (Nat.sub_le_sub_right hLo 22))) (wp_bind h) (fun r28 h => rs_back0 ?_))
      exact hj49 _ h _ l0 l1
  ·
    have h := wp_neg h q
    exact rs_vret wi_410_17 wr_410 (hQ r4.2 h)
theorem wf_407_176 : rx_ft (rt_P sc fm) 407 176 = some (15, 46) := (by decide +kernel : rt_ft 407 176 = some (15, 46))
theorem wf_407_179 : rx_ft (rt_P sc fm) 407 179 = some (15, 47) := (by decide +kernel : rt_ft 407 179 = some (15, 47))
theorem wi_407_0 : ri (rt_P sc fm) 407 0 (.iconst 0) (1) := ri_of (by decide +kernel) rfl
theorem wi_407_1 : ri (rt_P sc fm) 407 1 (.istore 4) (3) := ri_of (by decide +kernel) rfl
theorem wi_407_10 : ri (rt_P sc fm) 407 10 (.iaload) (11) := ri_of (by decide +kernel) rfl
theorem wi_407_11 : ri (rt_P sc fm) 407 11 (.if_icmp .ge 29) (14) := ri_of (by decide +kernel) rfl
theorem wi_407_14 : ri (rt_P sc fm) 407 14 (.aload_n 0) (15) := ri_of (by decide +kernel) rfl
theorem wi_407_15 : ri (rt_P sc fm) 407 15 (.getfield 179) (18) := ri_of (by decide +kernel) rfl
theorem wi_407_18 : ri (rt_P sc fm) 407 18 (.bipush 8) (20) := ri_of (by decide +kernel) rfl
theorem wi_407_20 : ri (rt_P sc fm) 407 20 (.iload_n 1) (21) := ri_of (by decide +kernel) rfl
theorem wi_407_21 : ri (rt_P sc fm) 407 21 (.imul) (22) := ri_of (by decide +kernel) rfl
theorem wi_407_22 : ri (rt_P sc fm) 407 22 (.iload 4) (24) := ri_of (by decide +kernel) rfl
theorem wi_407_24 : ri (rt_P sc fm) 407 24 (.iadd) (25) := ri_of (by decide +kernel) rfl
theorem wi_407_25 : ri (rt_P sc fm) 407 25 (.laload) (26) := ri_of (by decide +kernel) rfl
theorem wi_407_26 : ri (rt_P sc fm) 407 26 (.lload_n 2) (27) := ri_of (by decide +kernel) rfl
theorem wi_407_27 : ri (rt_P sc fm) 407 27 (.lcmp) (28) := ri_of (by decide +kernel) rfl
theorem wi_407_28 : ri (rt_P sc fm) 407 28 (.ifCond .ne 6) (31) := ri_of (by decide +kernel) rfl
theorem wi_407_3 : ri (rt_P sc fm) 407 3 (.iload 4) (5) := ri_of (by decide +kernel) rfl
theorem wi_407_31 : ri (rt_P sc fm) 407 31 (.iload 4) (33) := ri_of (by decide +kernel) rfl
theorem wi_407_33 : ri (rt_P sc fm) 407 33 (.ireturn) (34) := ri_of (by decide +kernel) rfl
theorem wi_407_34 : ri (rt_P sc fm) 407 34 (.iinc 4 1) (37) := ri_of (by decide +kernel) rfl
theorem wi_407_37 : ri (rt_P sc fm) 407 37 (.goto (-34)) (40) := ri_of (by decide +kernel) rfl
theorem wi_407_40 : ri (rt_P sc fm) 407 40 (.iconst (-1)) (41) := ri_of (by decide +kernel) rfl
theorem wi_407_41 : ri (rt_P sc fm) 407 41 (.ireturn) (42) := ri_of (by decide +kernel) rfl
theorem wi_407_5 : ri (rt_P sc fm) 407 5 (.aload_n 0) (6) := ri_of (by decide +kernel) rfl
theorem wi_407_6 : ri (rt_P sc fm) 407 6 (.getfield 176) (9) := ri_of (by decide +kernel) rfl
theorem wi_407_9 : ri (rt_P sc fm) 407 9 (.iload_n 1) (10) := ri_of (by decide +kernel) rfl
theorem wr_407 : rx_rt (rt_P sc fm) 407 = (some FieldType.int) := (by decide +kernel : rt_rt 407 = (some FieldType.int))
/-- MarkHouseModel.localOf(IJ)I -/
def d_407 (n : Nat) (a1 : Int32) (a2 : Int64) (c : cS) : Option (Int32) :=
  Option.bind (whl (R := (Unit) ⊕ (Int32)) (fun s2 : Int32 =>
    if ib a1 96 then
    if (c.1 208 (ix a1)) ≤ s2 then
      some (.inr (.inl ()))
    else
      if ib ((8 * a1) + s2) 768 then
      if (lg_cmp (c.2 209 (ix ((8 * a1) + s2))) a2) = 0 then
        some (.inr (.inr s2))
      else
        lt (s2 + 1 : Int32) (fun v6 =>
        some (.inl v6))
      else none
    else none) n 0)
  (Sum.elim (fun x8 : Unit =>
    some (-1))
  (fun x9 : Int32 =>
    some x9))
set_option maxRecDepth 100000 in
set_option maxHeartbeats 4000000 in
theorem sp_407 {F Lo n : Nat} {a1 : Int32} {a2 : Int64} {c y : cS} {w : cW} {K : Int32 → Prop} {Q : ((Option Value) ⊕ String) → List va_E → Prop} (hw : rOK fm w) (hF : 0 ≤ F) (hLo : 0 ≤ Lo)  (h : wp (d_407 n a1 a2 c) K) (hQ : ∀ r, K r → Q (.inl (some (.int r))) (hq false c y w)) : rs (rt_P sc fm) 407 F Lo 0 [(0, .ref 174), (1, .int a1), (2, .long a2)] [] (hq false c y w) Q := by
  unfold d_407 at h
  obtain ⟨lv, elv⟩ : ∃ lv : rx_L, lv = [(0, .ref 174), (1, .int a1), (2, .long a2)] := ⟨_, rfl⟩
  rw [← elv]
  have l0 : rx_ld lv 0 = some (.ref 174) := by rw [elv]; rfl
  have l1 : rx_ld lv 1 = some (.int a1) := by rw [elv]; rfl
  have l2 : rx_ld lv 2 = some (.long a2) := by rw [elv]; rfl
  refine rs_pure wi_407_0 rfl ?_
  refine rs_topi (v := 0) (by decide) ?_
  refine dl_ist wi_407_1 rfl (fun lv l4 t1 => ?_)
  have l0 := t1 _ _ (by decide) (Or.inl rfl) l0
  have l1 := t1 _ _ (by decide) (Or.inl rfl) l1
  have l2 := t1 _ _ (by decide) (Or.inr (by decide)) l2
  refine whl_ex (A := fun s2 : Int32 => ∀ lv, rx_ld lv 0 = some (.ref 174) → rx_ld lv 1 = some (.int a1) → rx_ld lv 2 = some (.long a2) → rx_ld lv 4 = some (.int s2) → rs (rt_P sc fm) 407 F Lo 3 lv [] (hq false c y w) Q) (B := (Sum.elim (fun x8 : Unit => ∀ lv, rs (rt_P sc fm) 407 F Lo 40 lv [] (hq false c y w) Q) (fun x9 : Int32 => ∀ lv, rx_ld lv 4 = some (.int x9) → rs (rt_P sc fm) 407 F Lo 31 lv [] (hq false c y w) Q))) ?_ ?_ _ _ (wp_bind h) _ l0 l1 l2 l4
  · intro s2 h lv l0 l1 l2 l4
    refine rs_ild wi_407_3 l4 ?_
    refine rs_aldn wi_407_5 l0 ?_
    refine dq_gr wi_407_6 wf_407_176 tf_174_46 ?_
    refine rs_ildn wi_407_9 l1 ?_
    obtain ⟨g3, h⟩ := wp_gd h
    refine dq_iald wi_407_10 t_208 g3 ?_
    refine rs_icge (tg := 40) wi_407_11 ⟨by decide, by decide⟩ (fun q => ?_) (fun q => ?_)
    ·
      have h := wp_pos h q
      exact h _
    ·
      have h := wp_neg h q
      refine rs_aldn wi_407_14 l0 ?_
      refine dq_gr wi_407_15 wf_407_179 tf_174_47 ?_
      refine rs_pure wi_407_18 rfl ?_
      refine rs_topi (v := 8) (by decide) ?_
      refine rs_ildn wi_407_20 l1 ?_
      refine rs_pure wi_407_21 rfl ?_
      refine rs_ild wi_407_22 l4 ?_
      refine rs_pure wi_407_24 rfl ?_
      obtain ⟨g4, h⟩ := wp_gd h
      refine dq_lald wi_407_25 t_209 g4 ?_
      refine rs_lldn wi_407_26 l2 ?_
      refine rs_pure wi_407_27 rfl ?_
      refine rs_ifne (tg := 34) wi_407_28 ⟨by decide, by decide⟩ (fun q => ?_) (fun q => ?_)
      ·
        have h := wp_neg h q
        obtain ⟨v6, e7, h⟩ := wp_lt h
        refine dl_inc wi_407_34 l4 rfl e7 (fun lv l4 t5 => ?_)
        have l0 := t5 _ _ (by decide) (Or.inl rfl) l0
        have l1 := t5 _ _ (by decide) (Or.inl rfl) l1
        have l2 := t5 _ _ (by decide) (Or.inr (by decide)) l2
        refine rs_goto (tg := 3) wi_407_37 ⟨by decide, by decide⟩ ?_
        exact h _ l0 l1 l2 l4
      ·
        have h := wp_pos h q
        exact h _ l4
  ·
    refine sum_all ?_ ?_
    ·
      intro x8 h lv
      have h := wp_inl h
      refine rs_pure wi_407_40 rfl ?_
      refine rs_topi (v := (-1)) (by decide) ?_
      exact rs_iret wi_407_41 wr_407 rfl (hQ (-1) h)
    ·
      intro x9 h lv l4
      have h := wp_inr h
      refine rs_ild wi_407_31 l4 ?_
      exact rs_iret wi_407_33 wr_407 rfl (hQ x9 h)
theorem t_211 : ta false 211 0 3840 := ⟨rfl, by decide, by decide⟩
theorem tf_174_49 : fo false 174 15 49 (.ref 211) := ⟨_, rfl, rfl, by decide, by decide⟩
theorem wa_15_407 : rz_cn 15 (rx_yn (rt_P sc fm) 407).cls = true := (by decide +kernel : rz_cn 15 (rt_yn 407).cls = true)
theorem wc_412_432 : rx_ct (rt_P sc fm) 412 432 = some (0, 97, 2) := (by decide +kernel : rt_ct 412 432 = some (0, 97, 2))
theorem wc_412_505 : rx_ct (rt_P sc fm) 412 505 = some (0, 381, 0) := (by decide +kernel : rt_ct 412 505 = some (0, 381, 0))
theorem wc_412_611 : rx_ct (rt_P sc fm) 412 611 = some (0, 407, 2) := (by decide +kernel : rt_ct 412 611 = some (0, 407, 2))
theorem wf_412_176 : rx_ft (rt_P sc fm) 412 176 = some (15, 46) := (by decide +kernel : rt_ft 412 176 = some (15, 46))
theorem wf_412_179 : rx_ft (rt_P sc fm) 412 179 = some (15, 47) := (by decide +kernel : rt_ft 412 179 = some (15, 47))
theorem wf_412_185 : rx_ft (rt_P sc fm) 412 185 = some (15, 49) := (by decide +kernel : rt_ft 412 185 = some (15, 49))
theorem wf_412_194 : rx_ft (rt_P sc fm) 412 194 = some (15, 52) := (by decide +kernel : rt_ft 412 194 = some (15, 52))
theorem wf_412_409 : rx_ft (rt_P sc fm) 412 409 = some (15, 13) := (by decide +kernel : rt_ft 412 409 = some (15, 13))
theorem wf_412_471 : rx_ft (rt_P sc fm) 412 471 = some (15, 67) := (by decide +kernel : rt_ft 412 471 = some (15, 67))
theorem wf_412_87 : rx_ft (rt_P sc fm) 412 87 = some (15, 9) := (by decide +kernel : rt_ft 412 87 = some (15, 9))
theorem wi_412_0 : ri (rt_P sc fm) 412 0 (.aload_n 0) (1) := ri_of (by decide +kernel) rfl
theorem wi_412_1 : ri (rt_P sc fm) 412 1 (.getfield 471) (4) := ri_of (by decide +kernel) rfl
theorem wi_412_100 : ri (rt_P sc fm) 412 100 (.aload_n 0) (101) := ri_of (by decide +kernel) rfl
theorem wi_412_101 : ri (rt_P sc fm) 412 101 (.getfield 176) (104) := ri_of (by decide +kernel) rfl
theorem wi_412_104 : ri (rt_P sc fm) 412 104 (.iload_n 1) (105) := ri_of (by decide +kernel) rfl
theorem wi_412_105 : ri (rt_P sc fm) 412 105 (.iaload) (106) := ri_of (by decide +kernel) rfl
theorem wi_412_106 : ri (rt_P sc fm) 412 106 (.iastore) (107) := ri_of (by decide +kernel) rfl
theorem wi_412_107 : ri (rt_P sc fm) 412 107 (.aload_n 0) (108) := ri_of (by decide +kernel) rfl
theorem wi_412_108 : ri (rt_P sc fm) 412 108 (.getfield 179) (111) := ri_of (by decide +kernel) rfl
theorem wi_412_11 : ri (rt_P sc fm) 412 11 (.aload_n 0) (12) := ri_of (by decide +kernel) rfl
theorem wi_412_111 : ri (rt_P sc fm) 412 111 (.bipush 8) (113) := ri_of (by decide +kernel) rfl
theorem wi_412_113 : ri (rt_P sc fm) 412 113 (.iload_n 1) (114) := ri_of (by decide +kernel) rfl
theorem wi_412_114 : ri (rt_P sc fm) 412 114 (.imul) (115) := ri_of (by decide +kernel) rfl
theorem wi_412_115 : ri (rt_P sc fm) 412 115 (.aload_n 0) (116) := ri_of (by decide +kernel) rfl
theorem wi_412_116 : ri (rt_P sc fm) 412 116 (.getfield 176) (119) := ri_of (by decide +kernel) rfl
theorem wi_412_119 : ri (rt_P sc fm) 412 119 (.iload_n 1) (120) := ri_of (by decide +kernel) rfl
theorem wi_412_12 : ri (rt_P sc fm) 412 12 (.getfield 409) (15) := ri_of (by decide +kernel) rfl
theorem wi_412_120 : ri (rt_P sc fm) 412 120 (.iaload) (121) := ri_of (by decide +kernel) rfl
theorem wi_412_121 : ri (rt_P sc fm) 412 121 (.iadd) (122) := ri_of (by decide +kernel) rfl
theorem wi_412_122 : ri (rt_P sc fm) 412 122 (.lload 4) (124) := ri_of (by decide +kernel) rfl
theorem wi_412_124 : ri (rt_P sc fm) 412 124 (.lastore) (125) := ri_of (by decide +kernel) rfl
theorem wi_412_125 : ri (rt_P sc fm) 412 125 (.aload_n 0) (126) := ri_of (by decide +kernel) rfl
theorem wi_412_126 : ri (rt_P sc fm) 412 126 (.getfield 176) (129) := ri_of (by decide +kernel) rfl
theorem wi_412_129 : ri (rt_P sc fm) 412 129 (.iload_n 1) (130) := ri_of (by decide +kernel) rfl
theorem wi_412_130 : ri (rt_P sc fm) 412 130 (.dup2) (131) := ri_of (by decide +kernel) rfl
theorem wi_412_131 : ri (rt_P sc fm) 412 131 (.iaload) (132) := ri_of (by decide +kernel) rfl
theorem wi_412_132 : ri (rt_P sc fm) 412 132 (.iconst 1) (133) := ri_of (by decide +kernel) rfl
theorem wi_412_133 : ri (rt_P sc fm) 412 133 (.iadd) (134) := ri_of (by decide +kernel) rfl
theorem wi_412_134 : ri (rt_P sc fm) 412 134 (.iastore) (135) := ri_of (by decide +kernel) rfl
theorem wi_412_135 : ri (rt_P sc fm) 412 135 (.return_) (136) := ri_of (by decide +kernel) rfl
theorem wi_412_15 : ri (rt_P sc fm) 412 15 (.ifCond .eq 4) (18) := ri_of (by decide +kernel) rfl
theorem wi_412_18 : ri (rt_P sc fm) 412 18 (.return_) (19) := ri_of (by decide +kernel) rfl
theorem wi_412_19 : ri (rt_P sc fm) 412 19 (.aload_n 0) (20) := ri_of (by decide +kernel) rfl
theorem wi_412_20 : ri (rt_P sc fm) 412 20 (.getfield 194) (23) := ri_of (by decide +kernel) rfl
theorem wi_412_23 : ri (rt_P sc fm) 412 23 (.iload_n 2) (24) := ri_of (by decide +kernel) rfl
theorem wi_412_24 : ri (rt_P sc fm) 412 24 (.aload_n 0) (25) := ri_of (by decide +kernel) rfl
theorem wi_412_25 : ri (rt_P sc fm) 412 25 (.iload_n 1) (26) := ri_of (by decide +kernel) rfl
theorem wi_412_26 : ri (rt_P sc fm) 412 26 (.lload 4) (28) := ri_of (by decide +kernel) rfl
theorem wi_412_28 : ri (rt_P sc fm) 412 28 (.invokevirtual 611) (31) := ri_of (by decide +kernel) rfl
theorem wi_412_31 : ri (rt_P sc fm) 412 31 (.iastore) (32) := ri_of (by decide +kernel) rfl
theorem wi_412_32 : ri (rt_P sc fm) 412 32 (.aload_n 0) (33) := ri_of (by decide +kernel) rfl
theorem wi_412_33 : ri (rt_P sc fm) 412 33 (.getfield 194) (36) := ri_of (by decide +kernel) rfl
theorem wi_412_36 : ri (rt_P sc fm) 412 36 (.iload_n 2) (37) := ri_of (by decide +kernel) rfl
theorem wi_412_37 : ri (rt_P sc fm) 412 37 (.iaload) (38) := ri_of (by decide +kernel) rfl
theorem wi_412_38 : ri (rt_P sc fm) 412 38 (.ifCond .lt 4) (41) := ri_of (by decide +kernel) rfl
theorem wi_412_4 : ri (rt_P sc fm) 412 4 (.istore_n 3) (5) := ri_of (by decide +kernel) rfl
theorem wi_412_41 : ri (rt_P sc fm) 412 41 (.return_) (42) := ri_of (by decide +kernel) rfl
theorem wi_412_42 : ri (rt_P sc fm) 412 42 (.aload_n 0) (43) := ri_of (by decide +kernel) rfl
theorem wi_412_43 : ri (rt_P sc fm) 412 43 (.getfield 185) (46) := ri_of (by decide +kernel) rfl
theorem wi_412_46 : ri (rt_P sc fm) 412 46 (.iload_n 2) (47) := ri_of (by decide +kernel) rfl
theorem wi_412_47 : ri (rt_P sc fm) 412 47 (.iaload) (48) := ri_of (by decide +kernel) rfl
theorem wi_412_48 : ri (rt_P sc fm) 412 48 (.bipush 16) (50) := ri_of (by decide +kernel) rfl
theorem wi_412_5 : ri (rt_P sc fm) 412 5 (.aload_n 0) (6) := ri_of (by decide +kernel) rfl
theorem wi_412_50 : ri (rt_P sc fm) 412 50 (.if_icmp .ne 14) (53) := ri_of (by decide +kernel) rfl
theorem wi_412_53 : ri (rt_P sc fm) 412 53 (.aload_n 0) (54) := ri_of (by decide +kernel) rfl
theorem wi_412_54 : ri (rt_P sc fm) 412 54 (.iconst 5) (55) := ri_of (by decide +kernel) rfl
theorem wi_412_55 : ri (rt_P sc fm) 412 55 (.aload_n 0) (56) := ri_of (by decide +kernel) rfl
theorem wi_412_56 : ri (rt_P sc fm) 412 56 (.getfield 87) (59) := ri_of (by decide +kernel) rfl
theorem wi_412_59 : ri (rt_P sc fm) 412 59 (.iload_n 3) (60) := ri_of (by decide +kernel) rfl
theorem wi_412_6 : ri (rt_P sc fm) 412 6 (.invokevirtual 505) (9) := ri_of (by decide +kernel) rfl
theorem wi_412_60 : ri (rt_P sc fm) 412 60 (.iaload) (61) := ri_of (by decide +kernel) rfl
theorem wi_412_61 : ri (rt_P sc fm) 412 61 (.invokevirtual 432) (64) := ri_of (by decide +kernel) rfl
theorem wi_412_64 : ri (rt_P sc fm) 412 64 (.aload_n 0) (65) := ri_of (by decide +kernel) rfl
theorem wi_412_65 : ri (rt_P sc fm) 412 65 (.getfield 176) (68) := ri_of (by decide +kernel) rfl
theorem wi_412_68 : ri (rt_P sc fm) 412 68 (.iload_n 1) (69) := ri_of (by decide +kernel) rfl
theorem wi_412_69 : ri (rt_P sc fm) 412 69 (.iaload) (70) := ri_of (by decide +kernel) rfl
theorem wi_412_70 : ri (rt_P sc fm) 412 70 (.bipush 8) (72) := ri_of (by decide +kernel) rfl
theorem wi_412_72 : ri (rt_P sc fm) 412 72 (.if_icmp .ne 15) (75) := ri_of (by decide +kernel) rfl
theorem wi_412_75 : ri (rt_P sc fm) 412 75 (.aload_n 0) (76) := ri_of (by decide +kernel) rfl
theorem wi_412_76 : ri (rt_P sc fm) 412 76 (.bipush 6) (78) := ri_of (by decide +kernel) rfl
theorem wi_412_78 : ri (rt_P sc fm) 412 78 (.aload_n 0) (79) := ri_of (by decide +kernel) rfl
theorem wi_412_79 : ri (rt_P sc fm) 412 79 (.getfield 87) (82) := ri_of (by decide +kernel) rfl
theorem wi_412_82 : ri (rt_P sc fm) 412 82 (.iload_n 3) (83) := ri_of (by decide +kernel) rfl
theorem wi_412_83 : ri (rt_P sc fm) 412 83 (.iaload) (84) := ri_of (by decide +kernel) rfl
theorem wi_412_84 : ri (rt_P sc fm) 412 84 (.invokevirtual 432) (87) := ri_of (by decide +kernel) rfl
theorem wi_412_87 : ri (rt_P sc fm) 412 87 (.aload_n 0) (88) := ri_of (by decide +kernel) rfl
theorem wi_412_88 : ri (rt_P sc fm) 412 88 (.getfield 409) (91) := ri_of (by decide +kernel) rfl
theorem wi_412_9 : ri (rt_P sc fm) 412 9 (.lstore 4) (11) := ri_of (by decide +kernel) rfl
theorem wi_412_91 : ri (rt_P sc fm) 412 91 (.ifCond .eq 4) (94) := ri_of (by decide +kernel) rfl
theorem wi_412_94 : ri (rt_P sc fm) 412 94 (.return_) (95) := ri_of (by decide +kernel) rfl
theorem wi_412_95 : ri (rt_P sc fm) 412 95 (.aload_n 0) (96) := ri_of (by decide +kernel) rfl
theorem wi_412_96 : ri (rt_P sc fm) 412 96 (.getfield 194) (99) := ri_of (by decide +kernel) rfl
theorem wi_412_99 : ri (rt_P sc fm) 412 99 (.iload_n 2) (100) := ri_of (by decide +kernel) rfl
theorem wm_407 : rx_ml (rt_P sc fm) 407 = 5 := (by decide +kernel : rt_ml 407 = 5)
theorem wr_412 : rx_rt (rt_P sc fm) 412 = none := (by decide +kernel : rt_rt 412 = none)
/-- MarkHouseModel.slot(II)V -/
def d_412 (n : Nat) (a1 : Int32) (a2 : Int32) (c : cS) : Option (cS) :=
  lt ((c.1 174 67) : Int32) (fun v2 =>
  Option.bind (d_381 n c) (fun r4 =>
  if (r4.2.1 174 13) = 0 then
    Option.bind (d_407 n a1 r4.1 r4.2) (fun v6 =>
    if ib a2 3840 then
    lt (pI r4.2 214 (ix a2) v6) (fun c8 =>
    if ib a2 3840 then
    if (c8.1 214 (ix a2)) < 0 then
      if ib a2 3840 then
      jn (fun p12 : cS =>
        if ib a1 96 then
        jn (fun p14 : cS =>
          if (p14.1 174 13) = 0 then
            if ib a1 96 then
            if ib a2 3840 then
            lt (pI p14 214 (ix a2) (p14.1 208 (ix a1))) (fun c17 =>
            if ib a1 96 then
            if ib ((8 * a1) + (c17.1 208 (ix a1))) 768 then
            lt (pL c17 209 (ix ((8 * a1) + (c17.1 208 (ix a1)))) r4.1) (fun c21 =>
            if ib a1 96 then
            if ib a1 96 then
            lt (pI c21 208 (ix a1) ((c21.1 208 (ix a1)) + 1)) (fun c25 =>
            some c25)
            else none
            else none)
            else none
            else none)
            else none
            else none
          else
            some p14)
        (fun j87 =>
        if (p12.1 208 (ix a1)) = 8 then
          if ib v2 4001 then
          Option.bind (d_97 n 6 (p12.1 179 (ix v2)) p12) (fun r28 =>
          j87 r28)
          else none
        else
          j87 p12)
        else none)
      (fun j64 =>
      if (c8.1 211 (ix a2)) = 16 then
        if ib v2 4001 then
        Option.bind (d_97 n 5 (c8.1 179 (ix v2)) c8) (fun r30 =>
        j64 r30)
        else none
      else
        j64 c8)
      else none
    else
      some c8
    else none)
    else none)
  else
    some r4.2))
set_option maxRecDepth 100000 in
set_option maxHeartbeats 4000000 in
theorem sp_412 {F Lo n : Nat} {a1 : Int32} {a2 : Int32} {c y : cS} {w : cW} {K : cS → Prop} {Q : ((Option Value) ⊕ String) → List va_E → Prop} (hw : rOK fm w) (hF : 3 ≤ F) (hLo : 62 ≤ Lo)  (h : wp (d_412 n a1 a2 c) K) (hQ : ∀ r, K r → Q (.inl none) (hq false r y w)) : rs (rt_P sc fm) 412 F Lo 0 [(0, .ref 174), (1, .int a1), (2, .int a2)] [] (hq false c y w) Q := by
  unfold d_412 at h
  obtain ⟨lv, elv⟩ : ∃ lv : rx_L, lv = [(0, .ref 174), (1, .int a1), (2, .int a2)] := ⟨_, rfl⟩
  rw [← elv]
  have l0 : rx_ld lv 0 = some (.ref 174) := by rw [elv]; rfl
  have l1 : rx_ld lv 1 = some (.int a1) := by rw [elv]; rfl
  have l2 : rx_ld lv 2 = some (.int a2) := by rw [elv]; rfl
  refine rs_aldn wi_412_0 l0 ?_
  refine dq_gi wi_412_1 wf_412_471 tf_174_67 ?_
  obtain ⟨v2, e3, h⟩ := wp_lt h
  refine rs_topi e3 ?_
  refine dl_istn wi_412_4 rfl (fun lv l3 t1 => ?_)
  have l0 := t1 _ _ (by decide) (Or.inl rfl) l0
  have l1 := t1 _ _ (by decide) (Or.inl rfl) l1
  have l2 := t1 _ _ (by decide) (Or.inl rfl) l2
  refine rs_aldn wi_412_5 l0 ?_
  refine rs_V wi_412_6 wc_412_505 rfl (dq_isa tf_174_0 wa_15_381) (Nat.le_trans (by decide) hF) (ml_le wm_381 (Nat.le_trans (by decide) hLo)) rfl (sp_381 hw (Nat.le_trans (by decide : 2 ≤ 3 - 1) (Nat.sub_le_sub_right hF 1)) (ml_sub wm_381 (Nat.le_trans (by decide : 42 ≤ 62 - 20) (Nat.sub_le_sub_right hLo 20))) (wp_bind h) (fun r4 h => rs_back1 ?_))
  refine dl_lst wi_412_9 rfl (fun lv l4 t5 => ?_)
  have l0 := t5 _ _ (by decide) (by decide) (Or.inl rfl) l0
  have l1 := t5 _ _ (by decide) (by decide) (Or.inl rfl) l1
  have l2 := t5 _ _ (by decide) (by decide) (Or.inl rfl) l2
  have l3 := t5 _ _ (by decide) (by decide) (Or.inl rfl) l3
  refine rs_aldn wi_412_11 l0 ?_
  refine dq_gi wi_412_12 wf_412_409 tf_174_13 ?_
  refine rs_ifeq (tg := 19) wi_412_15 ⟨by decide, by decide⟩ (fun q => ?_) (fun q => ?_)
  ·
    have h := wp_pos h q
    refine rs_aldn wi_412_19 l0 ?_
    refine dq_gr wi_412_20 wf_412_194 tf_174_52 ?_
    refine rs_ildn wi_412_23 l2 ?_
    refine rs_aldn wi_412_24 l0 ?_
    refine rs_ildn wi_412_25 l1 ?_
    refine rs_lld wi_412_26 l4 ?_
    refine rs_V wi_412_28 wc_412_611 rfl (dq_isa tf_174_0 wa_15_407) (Nat.le_trans (by decide) hF) (ml_le wm_407 (Nat.le_trans (by decide) hLo)) rfl (sp_407 hw (Nat.le_trans (by decide : 0 ≤ 3 - 1) (Nat.sub_le_sub_right hF 1)) (ml_sub wm_407 (Nat.le_trans (by decide : 0 ≤ 62 - 24) (Nat.sub_le_sub_right hLo 24))) (wp_bind h) (fun v6 h => rs_back1 ?_))
    obtain ⟨g7, h⟩ := wp_gd h
    obtain ⟨c8, e9, h⟩ := wp_lt h
    refine dq_iast wi_412_31 t_214 g7 e9 ?_
    refine rs_aldn wi_412_32 l0 ?_
    refine dq_gr wi_412_33 wf_412_194 tf_174_52 ?_
    refine rs_ildn wi_412_36 l2 ?_
    obtain ⟨g10, h⟩ := wp_gd h
    refine dq_iald wi_412_37 t_214 g10 ?_
    refine rs_iflt (tg := 42) wi_412_38 ⟨by decide, by decide⟩ (fun q => ?_) (fun q => ?_)
    ·
      have h := wp_pos h q
      refine rs_aldn wi_412_42 l0 ?_
      refine dq_gr wi_412_43 wf_412_185 tf_174_49 ?_
      refine rs_ildn wi_412_46 l2 ?_
      obtain ⟨g11, h⟩ := wp_gd h
      refine dq_iald wi_412_47 t_211 g11 ?_
      refine rs_pure wi_412_48 rfl ?_
      refine rs_topi (v := 16) (by decide) ?_
      refine wp_jn (B := fun p12 : cS => ∀ lv, rx_ld lv 0 = some (.ref 174) → rx_ld lv 1 = some (.int a1) → rx_ld lv 2 = some (.int a2) → rx_ld lv 3 = some (.int v2) → rx_ld lv 4 = some (.long r4.1) → rs (rt_P sc fm) 412 F Lo 64 lv [] (hq false p12 y w) Q) h (fun p12 h lv l0 l1 l2 l3 l4 => ?_) (fun j64 hj64 h => ?_)
      ·
        refine rs_aldn wi_412_64 l0 ?_
        refine dq_gr wi_412_65 wf_412_176 tf_174_46 ?_
        refine rs_ildn wi_412_68 l1 ?_
        obtain ⟨g13, h⟩ := wp_gd h
        refine dq_iald wi_412_69 t_208 g13 ?_
        refine rs_pure wi_412_70 rfl ?_
        refine rs_topi (v := 8) (by decide) ?_
        refine wp_jn (B := fun p14 : cS => ∀ lv, rx_ld lv 0 = some (.ref 174) → rx_ld lv 1 = some (.int a1) → rx_ld lv 2 = some (.int a2) → rx_ld lv 4 = some (.long r4.1) → rs (rt_P sc fm) 412 F Lo 87 lv [] (hq false p14 y w) Q) h (fun p14 h lv l0 l1 l2 l4 => ?_) (fun j87 hj87 h => ?_)
        ·
          refine rs_aldn wi_412_87 l0 ?_
          refine dq_gi wi_412_88 wf_412_409 tf_174_13 ?_
          refine rs_ifeq (tg := 95) wi_412_91 ⟨by decide, by decide⟩ (fun q => ?_) (fun q => ?_)
          ·
            have h := wp_pos h q
            refine rs_aldn wi_412_95 l0 ?_
            refine dq_gr wi_412_96 wf_412_194 tf_174_52 ?_
            refine rs_ildn wi_412_99 l2 ?_
            refine rs_aldn wi_412_100 l0 ?_
            refine dq_gr wi_412_101 wf_412_176 tf_174_46 ?_
            refine rs_ildn wi_412_104 l1 ?_
            obtain ⟨g15, h⟩ := wp_gd h
            refine dq_iald wi_412_105 t_208 g15 ?_
            obtain ⟨g16, h⟩ := wp_gd h
            obtain ⟨c17, e18, h⟩ := wp_lt h
            refine dq_iast wi_412_106 t_214 g16 e18 ?_
            refine rs_aldn wi_412_107 l0 ?_
            refine dq_gr wi_412_108 wf_412_179 tf_174_47 ?_
            refine rs_pure wi_412_111 rfl ?_
            refine rs_topi (v := 8) (by decide) ?_
            refine rs_ildn wi_412_113 l1 ?_
            refine rs_pure wi_412_114 rfl ?_
            refine rs_aldn wi_412_115 l0 ?_
            refine dq_gr wi_412_116 wf_412_176 tf_174_46 ?_
            refine rs_ildn wi_412_119 l1 ?_
            obtain ⟨g19, h⟩ := wp_gd h
            refine dq_iald wi_412_120 t_208 g19 ?_
            refine rs_pure wi_412_121 rfl ?_
            refine rs_lld wi_412_122 l4 ?_
            obtain ⟨g20, h⟩ := wp_gd h
            obtain ⟨c21, e22, h⟩ := wp_lt h
            refine dq_last wi_412_124 t_209 g20 e22 ?_
            refine rs_aldn wi_412_125 l0 ?_
            refine dq_gr wi_412_126 wf_412_176 tf_174_46 ?_
            refine rs_ildn wi_412_129 l1 ?_
            refine rs_pure wi_412_130 rfl ?_
            obtain ⟨g23, h⟩ := wp_gd h
            refine dq_iald wi_412_131 t_208 g23 ?_
            refine rs_pure wi_412_132 rfl ?_
            refine rs_topi (v := 1) (by decide) ?_
            refine rs_pure wi_412_133 rfl ?_
            obtain ⟨g24, h⟩ := wp_gd h
            obtain ⟨c25, e26, h⟩ := wp_lt h
            refine dq_iast wi_412_134 t_208 g24 e26 ?_
            exact rs_vret wi_412_135 wr_412 (hQ c25 h)
          ·
            have h := wp_neg h q
            exact rs_vret wi_412_94 wr_412 (hQ p14 h)
        refine rs_icne (tg := 87) wi_412_72 ⟨by decide, by decide⟩ (fun q => ?_) (fun q => ?_)
        ·
          have h := wp_neg h q
          exact hj87 _ h _ l0 l1 l2 l4
        ·
          have h := wp_pos h q
          refine rs_aldn wi_412_75 l0 ?_
          refine rs_pure wi_412_76 rfl ?_
          refine rs_topi (v := 6) (by decide) ?_
          refine rs_aldn wi_412_78 l0 ?_
          refine dq_gr wi_412_79 wf_412_87 tf_174_9 ?_
          refine rs_ildn wi_412_82 l3 ?_
          obtain ⟨g27, h⟩ := wp_gd h
          refine dq_iald wi_412_83 t_179 g27 ?_
          refine rs_V wi_412_84 wc_412_432 rfl (dq_isa tf_174_0 wa_15_97) (Nat.le_trans (by decide) hF) (ml_le wm_97 (Nat.le_trans (by decide) hLo)) rfl (sp_97 hw (Nat.le_trans (by decide : 0 ≤ 3 - 1) (Nat.sub_le_sub_right hF 1)) (ml_sub wm_97 (Nat.le_trans (by decide : 0 ≤ 62 - 22) (Nat.sub_le_sub_right hLo 22))) (wp_bind h) (fun r28 h => rs_back0 ?_))
          exact hj87 _ h _ l0 l1 l2 l4
      refine rs_icne (tg := 64) wi_412_50 ⟨by decide, by decide⟩ (fun q => ?_) (fun q => ?_)
      ·
        have h := wp_neg h q
        exact hj64 _ h _ l0 l1 l2 l3 l4
      ·
        have h := wp_pos h q
        refine rs_aldn wi_412_53 l0 ?_
        refine rs_pure wi_412_54 rfl ?_
        refine rs_topi (v := 5) (by decide) ?_
        refine rs_aldn wi_412_55 l0 ?_
        refine dq_gr wi_412_56 wf_412_87 tf_174_9 ?_
        refine rs_ildn wi_412_59 l3 ?_
        obtain ⟨g29, h⟩ := wp_gd h
        refine dq_iald wi_412_60 t_179 g29 ?_
        refine rs_V wi_412_61 wc_412_432 rfl (dq_isa tf_174_0 wa_15_97) (Nat.le_trans (by decide) hF) (ml_le wm_97 (Nat.le_trans (by decide) hLo)) rfl (sp_97 hw (Nat.le_trans (by decide : 0 ≤ 3 - 1) (Nat.sub_le_sub_right hF 1)) (ml_sub wm_97 (Nat.le_trans (by decide : 0 ≤ 62 - 22) (Nat.sub_le_sub_right hLo 22))) (wp_bind h) (fun r30 h => rs_back0 ?_))
        exact hj64 _ h _ l0 l1 l2 l3 l4
    ·
      have h := wp_neg h q
      exact rs_vret wi_412_41 wr_412 (hQ c8 h)
  ·
    have h := wp_neg h q
    exact rs_vret wi_412_18 wr_412 (hQ r4.2 h)
end D53
