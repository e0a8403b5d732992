/-! THE CODE AS PURE PROGRAMS, 11: by wip/whole/dc.py -/
section D52
variable {sc : Nat × (Nat → Int32)} {fm : Value}
theorem tf_174_67 : fo false 174 15 67 (.int 0) := ⟨_, rfl, rfl, by decide, by decide⟩
theorem wf_100_471 : rx_ft (rt_P sc fm) 100 471 = some (15, 67) := (by decide +kernel : rt_ft 100 471 = some (15, 67))
theorem wf_100_84 : rx_ft (rt_P sc fm) 100 84 = some (15, 8) := (by decide +kernel : rt_ft 100 84 = some (15, 8))
theorem wf_100_90 : rx_ft (rt_P sc fm) 100 90 = some (15, 10) := (by decide +kernel : rt_ft 100 90 = some (15, 10))
theorem wi_100_0 : ri (rt_P sc fm) 100 0 (.aload_n 0) (1) := ri_of (by decide +kernel) rfl
theorem wi_100_1 : ri (rt_P sc fm) 100 1 (.getfield 84) (4) := ri_of (by decide +kernel) rfl
theorem wi_100_10 : ri (rt_P sc fm) 100 10 (.if_icmp .ne 22) (13) := ri_of (by decide +kernel) rfl
theorem wi_100_13 : ri (rt_P sc fm) 100 13 (.aload_n 0) (14) := ri_of (by decide +kernel) rfl
theorem wi_100_14 : ri (rt_P sc fm) 100 14 (.getfield 90) (17) := ri_of (by decide +kernel) rfl
theorem wi_100_17 : ri (rt_P sc fm) 100 17 (.aload_n 0) (18) := ri_of (by decide +kernel) rfl
theorem wi_100_18 : ri (rt_P sc fm) 100 18 (.getfield 471) (21) := ri_of (by decide +kernel) rfl
theorem wi_100_21 : ri (rt_P sc fm) 100 21 (.laload) (22) := ri_of (by decide +kernel) rfl
theorem wi_100_22 : ri (rt_P sc fm) 100 22 (.iload_n 1) (23) := ri_of (by decide +kernel) rfl
theorem wi_100_23 : ri (rt_P sc fm) 100 23 (.i2l) (24) := ri_of (by decide +kernel) rfl
theorem wi_100_24 : ri (rt_P sc fm) 100 24 (.lcmp) (25) := ri_of (by decide +kernel) rfl
theorem wi_100_25 : ri (rt_P sc fm) 100 25 (.ifCond .ne 7) (28) := ri_of (by decide +kernel) rfl
theorem wi_100_28 : ri (rt_P sc fm) 100 28 (.iconst 1) (29) := ri_of (by decide +kernel) rfl
theorem wi_100_29 : ri (rt_P sc fm) 100 29 (.goto 4) (32) := ri_of (by decide +kernel) rfl
theorem wi_100_32 : ri (rt_P sc fm) 100 32 (.iconst 0) (33) := ri_of (by decide +kernel) rfl
theorem wi_100_33 : ri (rt_P sc fm) 100 33 (.ireturn) (34) := ri_of (by decide +kernel) rfl
theorem wi_100_4 : ri (rt_P sc fm) 100 4 (.aload_n 0) (5) := ri_of (by decide +kernel) rfl
theorem wi_100_5 : ri (rt_P sc fm) 100 5 (.getfield 471) (8) := ri_of (by decide +kernel) rfl
theorem wi_100_8 : ri (rt_P sc fm) 100 8 (.iaload) (9) := ri_of (by decide +kernel) rfl
theorem wi_100_9 : ri (rt_P sc fm) 100 9 (.iconst 4) (10) := ri_of (by decide +kernel) rfl
theorem wr_100 : rx_rt (rt_P sc fm) 100 = (some FieldType.boolean) := (by decide +kernel : rt_rt 100 = (some FieldType.boolean))
/-- MarkHouseModel.isWord(I)Z -/
def d_100 (n : Nat) (a1 : Int32) (c : cS) : Option (Int32) :=
  if ib (c.1 174 67) 4001 then
  jn (fun p2 : Int32 =>
    if nb p2 then
    some p2
    else none)
  (fun j33 =>
  jn (fun p4 : Unit =>
    j33 0)
  (fun j32 =>
  if (c.1 178 (ix (c.1 174 67))) = 4 then
    if ib (c.1 174 67) 4001 then
    if (lg_cmp (c.2 180 (ix (c.1 174 67))) ((a1 : Int32).toInt64)) = 0 then
      j33 1
    else
      j32 ()
    else none
  else
    j32 ()))
  else none
set_option maxRecDepth 100000 in
set_option maxHeartbeats 4000000 in
theorem sp_100 {F Lo n : Nat} {a1 : Int32} {c y : cS} {w : cW} {K : Int32 → Prop} {Q : ((Option Value) ⊕ String) → List va_E → Prop} (hw : rOK fm w) (hF : 0 ≤ F) (hLo : 0 ≤ Lo)  (h : wp (d_100 n a1 c) K) (hQ : ∀ r, K r → Q (.inl (some (.int r))) (hq false c y w)) : rs (rt_P sc fm) 100 F Lo 0 [(0, .ref 174), (1, .int a1)] [] (hq false c y w) Q := by
  unfold d_100 at h
  obtain ⟨lv, elv⟩ : ∃ lv : rx_L, lv = [(0, .ref 174), (1, .int a1)] := ⟨_, rfl⟩
  rw [← elv]
  have l0 : rx_ld lv 0 = some (.ref 174) := by rw [elv]; rfl
  have l1 : rx_ld lv 1 = some (.int a1) := by rw [elv]; rfl
  refine rs_aldn wi_100_0 l0 ?_
  refine dq_gr wi_100_1 wf_100_84 tf_174_8 ?_
  refine rs_aldn wi_100_4 l0 ?_
  refine dq_gi wi_100_5 wf_100_471 tf_174_67 ?_
  obtain ⟨g1, h⟩ := wp_gd h
  refine dq_iald wi_100_8 t_178 g1 ?_
  refine rs_pure wi_100_9 rfl ?_
  refine rs_topi (v := 4) (by decide) ?_
  refine wp_jn (B := fun p2 : Int32 => ∀ lv, rs (rt_P sc fm) 100 F Lo 33 lv [.int p2] (hq false c y w) Q) h (fun p2 h lv => ?_) (fun j33 hj33 h => ?_)
  ·
    obtain ⟨g3, h⟩ := wp_gd h
    exact rs_iret wi_100_33 wr_100 (nb_n g3) (hQ p2 h)
  refine wp_jn (B := fun p4 : Unit => ∀ lv, rs (rt_P sc fm) 100 F Lo 32 lv [] (hq false c y w) Q) h (fun p4 h lv => ?_) (fun j32 hj32 h => ?_)
  ·
    refine rs_pure wi_100_32 rfl ?_
    refine rs_topi (v := 0) (by decide) ?_
    exact hj33 _ h _
  refine rs_icne (tg := 32) wi_100_10 ⟨by decide, by decide⟩ (fun q => ?_) (fun q => ?_)
  ·
    have h := wp_neg h q
    exact hj32 _ h _
  ·
    have h := wp_pos h q
    refine rs_aldn wi_100_13 l0 ?_
    refine dq_gr wi_100_14 wf_100_90 tf_174_10 ?_
    refine rs_aldn wi_100_17 l0 ?_
    refine dq_gi wi_100_18 wf_100_471 tf_174_67 ?_
    obtain ⟨g5, h⟩ := wp_gd h
    refine dq_lald wi_100_21 t_180 g5 ?_
    refine rs_ildn wi_100_22 l1 ?_
    refine rs_pure wi_100_23 rfl ?_
    refine rs_pure wi_100_24 rfl ?_
    refine rs_ifne (tg := 32) wi_100_25 ⟨by decide, by decide⟩ (fun q => ?_) (fun q => ?_)
    ·
      have h := wp_neg h q
      exact hj32 _ h _
    ·
      have h := wp_pos h q
      refine rs_pure wi_100_28 rfl ?_
      refine rs_topi (v := 1) (by decide) ?_
      refine rs_goto (tg := 33) wi_100_29 ⟨by decide, by decide⟩ ?_
      exact hj33 _ h _
theorem wf_101_471 : rx_ft (rt_P sc fm) 101 471 = some (15, 67) := (by decide +kernel : rt_ft 101 471 = some (15, 67))
theorem wf_101_84 : rx_ft (rt_P sc fm) 101 84 = some (15, 8) := (by decide +kernel : rt_ft 101 84 = some (15, 8))
theorem wf_101_90 : rx_ft (rt_P sc fm) 101 90 = some (15, 10) := (by decide +kernel : rt_ft 101 90 = some (15, 10))
theorem wi_101_0 : ri (rt_P sc fm) 101 0 (.aload_n 0) (1) := ri_of (by decide +kernel) rfl
theorem wi_101_1 : ri (rt_P sc fm) 101 1 (.getfield 84) (4) := ri_of (by decide +kernel) rfl
theorem wi_101_10 : ri (rt_P sc fm) 101 10 (.if_icmp .ne 22) (13) := ri_of (by decide +kernel) rfl
theorem wi_101_13 : ri (rt_P sc fm) 101 13 (.aload_n 0) (14) := ri_of (by decide +kernel) rfl
theorem wi_101_14 : ri (rt_P sc fm) 101 14 (.getfield 90) (17) := ri_of (by decide +kernel) rfl
theorem wi_101_17 : ri (rt_P sc fm) 101 17 (.aload_n 0) (18) := ri_of (by decide +kernel) rfl
theorem wi_101_18 : ri (rt_P sc fm) 101 18 (.getfield 471) (21) := ri_of (by decide +kernel) rfl
theorem wi_101_21 : ri (rt_P sc fm) 101 21 (.laload) (22) := ri_of (by decide +kernel) rfl
theorem wi_101_22 : ri (rt_P sc fm) 101 22 (.iload_n 1) (23) := ri_of (by decide +kernel) rfl
theorem wi_101_23 : ri (rt_P sc fm) 101 23 (.i2l) (24) := ri_of (by decide +kernel) rfl
theorem wi_101_24 : ri (rt_P sc fm) 101 24 (.lcmp) (25) := ri_of (by decide +kernel) rfl
theorem wi_101_25 : ri (rt_P sc fm) 101 25 (.ifCond .ne 7) (28) := ri_of (by decide +kernel) rfl
theorem wi_101_28 : ri (rt_P sc fm) 101 28 (.iconst 1) (29) := ri_of (by decide +kernel) rfl
theorem wi_101_29 : ri (rt_P sc fm) 101 29 (.goto 4) (32) := ri_of (by decide +kernel) rfl
theorem wi_101_32 : ri (rt_P sc fm) 101 32 (.iconst 0) (33) := ri_of (by decide +kernel) rfl
theorem wi_101_33 : ri (rt_P sc fm) 101 33 (.ireturn) (34) := ri_of (by decide +kernel) rfl
theorem wi_101_4 : ri (rt_P sc fm) 101 4 (.aload_n 0) (5) := ri_of (by decide +kernel) rfl
theorem wi_101_5 : ri (rt_P sc fm) 101 5 (.getfield 471) (8) := ri_of (by decide +kernel) rfl
theorem wi_101_8 : ri (rt_P sc fm) 101 8 (.iaload) (9) := ri_of (by decide +kernel) rfl
theorem wi_101_9 : ri (rt_P sc fm) 101 9 (.iconst 3) (10) := ri_of (by decide +kernel) rfl
theorem wr_101 : rx_rt (rt_P sc fm) 101 = (some FieldType.boolean) := (by decide +kernel : rt_rt 101 = (some FieldType.boolean))
/-- MarkHouseModel.isSignHere(I)Z -/
def d_101 (n : Nat) (a1 : Int32) (c : cS) : Option (Int32) :=
  if ib (c.1 174 67) 4001 then
  jn (fun p2 : Int32 =>
    if nb p2 then
    some p2
    else none)
  (fun j33 =>
  jn (fun p4 : Unit =>
    j33 0)
  (fun j32 =>
  if (c.1 178 (ix (c.1 174 67))) = 3 then
    if ib (c.1 174 67) 4001 then
    if (lg_cmp (c.2 180 (ix (c.1 174 67))) ((a1 : Int32).toInt64)) = 0 then
      j33 1
    else
      j32 ()
    else none
  else
    j32 ()))
  else none
set_option maxRecDepth 100000 in
set_option maxHeartbeats 4000000 in
theorem sp_101 {F Lo n : Nat} {a1 : Int32} {c y : cS} {w : cW} {K : Int32 → Prop} {Q : ((Option Value) ⊕ String) → List va_E → Prop} (hw : rOK fm w) (hF : 0 ≤ F) (hLo : 0 ≤ Lo)  (h : wp (d_101 n a1 c) K) (hQ : ∀ r, K r → Q (.inl (some (.int r))) (hq false c y w)) : rs (rt_P sc fm) 101 F Lo 0 [(0, .ref 174), (1, .int a1)] [] (hq false c y w) Q := by
  unfold d_101 at h
  obtain ⟨lv, elv⟩ : ∃ lv : rx_L, lv = [(0, .ref 174), (1, .int a1)] := ⟨_, rfl⟩
  rw [← elv]
  have l0 : rx_ld lv 0 = some (.ref 174) := by rw [elv]; rfl
  have l1 : rx_ld lv 1 = some (.int a1) := by rw [elv]; rfl
  refine rs_aldn wi_101_0 l0 ?_
  refine dq_gr wi_101_1 wf_101_84 tf_174_8 ?_
  refine rs_aldn wi_101_4 l0 ?_
  refine dq_gi wi_101_5 wf_101_471 tf_174_67 ?_
  obtain ⟨g1, h⟩ := wp_gd h
  refine dq_iald wi_101_8 t_178 g1 ?_
  refine rs_pure wi_101_9 rfl ?_
  refine rs_topi (v := 3) (by decide) ?_
  refine wp_jn (B := fun p2 : Int32 => ∀ lv, rs (rt_P sc fm) 101 F Lo 33 lv [.int p2] (hq false c y w) Q) h (fun p2 h lv => ?_) (fun j33 hj33 h => ?_)
  ·
    obtain ⟨g3, h⟩ := wp_gd h
    exact rs_iret wi_101_33 wr_101 (nb_n g3) (hQ p2 h)
  refine wp_jn (B := fun p4 : Unit => ∀ lv, rs (rt_P sc fm) 101 F Lo 32 lv [] (hq false c y w) Q) h (fun p4 h lv => ?_) (fun j32 hj32 h => ?_)
  ·
    refine rs_pure wi_101_32 rfl ?_
    refine rs_topi (v := 0) (by decide) ?_
    exact hj33 _ h _
  refine rs_icne (tg := 32) wi_101_10 ⟨by decide, by decide⟩ (fun q => ?_) (fun q => ?_)
  ·
    have h := wp_neg h q
    exact hj32 _ h _
  ·
    have h := wp_pos h q
    refine rs_aldn wi_101_13 l0 ?_
    refine dq_gr wi_101_14 wf_101_90 tf_174_10 ?_
    refine rs_aldn wi_101_17 l0 ?_
    refine dq_gi wi_101_18 wf_101_471 tf_174_67 ?_
    obtain ⟨g5, h⟩ := wp_gd h
    refine dq_lald wi_101_21 t_180 g5 ?_
    refine rs_ildn wi_101_22 l1 ?_
    refine rs_pure wi_101_23 rfl ?_
    refine rs_pure wi_101_24 rfl ?_
    refine rs_ifne (tg := 32) wi_101_25 ⟨by decide, by decide⟩ (fun q => ?_) (fun q => ?_)
    ·
      have h := wp_neg h q
      exact hj32 _ h _
    ·
      have h := wp_pos h q
      refine rs_pure wi_101_28 rfl ?_
      refine rs_topi (v := 1) (by decide) ?_
      refine rs_goto (tg := 33) wi_101_29 ⟨by decide, by decide⟩ ?_
      exact hj33 _ h _
theorem wa_15_100 : rz_cn 15 (rx_yn (rt_P sc fm) 100).cls = true := (by decide +kernel : rz_cn 15 (rt_yn 100).cls = true)
theorem wc_102_474 : rx_ct (rt_P sc fm) 102 474 = some (0, 100, 1) := (by decide +kernel : rt_ct 102 474 = some (0, 100, 1))
theorem wf_102_409 : rx_ft (rt_P sc fm) 102 409 = some (15, 13) := (by decide +kernel : rt_ft 102 409 = some (15, 13))
theorem wf_102_471 : rx_ft (rt_P sc fm) 102 471 = some (15, 67) := (by decide +kernel : rt_ft 102 471 = some (15, 67))
theorem wi_102_0 : ri (rt_P sc fm) 102 0 (.aload_n 0) (1) := ri_of (by decide +kernel) rfl
theorem wi_102_1 : ri (rt_P sc fm) 102 1 (.getfield 409) (4) := ri_of (by decide +kernel) rfl
theorem wi_102_12 : ri (rt_P sc fm) 102 12 (.ifCond .ne 5) (15) := ri_of (by decide +kernel) rfl
theorem wi_102_15 : ri (rt_P sc fm) 102 15 (.iconst 0) (16) := ri_of (by decide +kernel) rfl
theorem wi_102_16 : ri (rt_P sc fm) 102 16 (.ireturn) (17) := ri_of (by decide +kernel) rfl
theorem wi_102_17 : ri (rt_P sc fm) 102 17 (.aload_n 0) (18) := ri_of (by decide +kernel) rfl
theorem wi_102_18 : ri (rt_P sc fm) 102 18 (.dup) (19) := ri_of (by decide +kernel) rfl
theorem wi_102_19 : ri (rt_P sc fm) 102 19 (.getfield 471) (22) := ri_of (by decide +kernel) rfl
theorem wi_102_22 : ri (rt_P sc fm) 102 22 (.iconst 1) (23) := ri_of (by decide +kernel) rfl
theorem wi_102_23 : ri (rt_P sc fm) 102 23 (.iadd) (24) := ri_of (by decide +kernel) rfl
theorem wi_102_24 : ri (rt_P sc fm) 102 24 (.putfield 471) (27) := ri_of (by decide +kernel) rfl
theorem wi_102_27 : ri (rt_P sc fm) 102 27 (.iconst 1) (28) := ri_of (by decide +kernel) rfl
theorem wi_102_28 : ri (rt_P sc fm) 102 28 (.ireturn) (29) := ri_of (by decide +kernel) rfl
theorem wi_102_4 : ri (rt_P sc fm) 102 4 (.ifCond .ne 11) (7) := ri_of (by decide +kernel) rfl
theorem wi_102_7 : ri (rt_P sc fm) 102 7 (.aload_n 0) (8) := ri_of (by decide +kernel) rfl
theorem wi_102_8 : ri (rt_P sc fm) 102 8 (.iload_n 1) (9) := ri_of (by decide +kernel) rfl
theorem wi_102_9 : ri (rt_P sc fm) 102 9 (.invokevirtual 474) (12) := ri_of (by decide +kernel) rfl
theorem wm_100 : rx_ml (rt_P sc fm) 100 = 2 := (by decide +kernel : rt_ml 100 = 2)
theorem wp_102_471 : rx_pt (rt_P sc fm) 102 471 = some (15, 67, .int) := (by decide +kernel : rt_pt 102 471 = some (15, 67, .int))
theorem wr_102 : rx_rt (rt_P sc fm) 102 = (some FieldType.boolean) := (by decide +kernel : rt_rt 102 = (some FieldType.boolean))
/-- MarkHouseModel.mayWord(I)Z -/
def d_102 (n : Nat) (a1 : Int32) (c : cS) : Option (Int32 × cS) :=
  jn (fun p1 : Unit =>
    some (0, c))
  (fun j15 =>
  if (c.1 174 13) = 0 then
    Option.bind (d_100 n a1 c) (fun v2 =>
    if v2 = 0 then
      j15 ()
    else
      lt (pI c 174 67 ((c.1 174 67) + 1)) (fun c3 =>
      some (1, c3)))
  else
    j15 ())
set_option maxRecDepth 100000 in
set_option maxHeartbeats 4000000 in
theorem sp_102 {F Lo n : Nat} {a1 : Int32} {c y : cS} {w : cW} {K : Int32 × cS → Prop} {Q : ((Option Value) ⊕ String) → List va_E → Prop} (hw : rOK fm w) (hF : 1 ≤ F) (hLo : 21 ≤ Lo)  (h : wp (d_102 n a1 c) K) (hQ : ∀ r, K r → Q (.inl (some (.int r.1))) (hq false r.2 y w)) : rs (rt_P sc fm) 102 F Lo 0 [(0, .ref 174), (1, .int a1)] [] (hq false c y w) Q := by
  unfold d_102 at h
  obtain ⟨lv, elv⟩ : ∃ lv : rx_L, lv = [(0, .ref 174), (1, .int a1)] := ⟨_, rfl⟩
  rw [← elv]
  have l0 : rx_ld lv 0 = some (.ref 174) := by rw [elv]; rfl
  have l1 : rx_ld lv 1 = some (.int a1) := by rw [elv]; rfl
  refine rs_aldn wi_102_0 l0 ?_
  refine dq_gi wi_102_1 wf_102_409 tf_174_13 ?_
  refine wp_jn (B := fun p1 : Unit => ∀ lv, rs (rt_P sc fm) 102 F Lo 15 lv [] (hq false c y w) Q) h (fun p1 h lv => ?_) (fun j15 hj15 h => ?_)
  ·
    refine rs_pure wi_102_15 rfl ?_
    refine rs_topi (v := 0) (by decide) ?_
    exact rs_iret wi_102_16 wr_102 (nb_n (by decide)) (hQ (0, c) h)
  refine rs_ifne (tg := 15) wi_102_4 ⟨by decide, by decide⟩ (fun q => ?_) (fun q => ?_)
  ·
    have h := wp_neg h q
    exact hj15 _ h _
  ·
    have h := wp_pos h q
    refine rs_aldn wi_102_7 l0 ?_
    refine rs_ildn wi_102_8 l1 ?_
    refine rs_V wi_102_9 wc_102_474 rfl (dq_isa tf_174_0 wa_15_100) (Nat.le_trans (by decide) hF) (ml_le wm_100 (Nat.le_trans (by decide) hLo)) rfl (sp_100 hw (Nat.le_trans (by decide : 0 ≤ 1 - 1) (Nat.sub_le_sub_right hF 1)) (ml_sub wm_100 (Nat.le_trans (by decide : 0 ≤ 21 - 21) (Nat.sub_le_sub_right hLo 21))) (wp_bind h) (fun v2 h => rs_back1 ?_))
    refine rs_ifne (tg := 17) wi_102_12 ⟨by decide, by decide⟩ (fun q => ?_) (fun q => ?_)
    ·
      have h := wp_neg h q
      refine rs_aldn wi_102_17 l0 ?_
      refine rs_pure wi_102_18 rfl ?_
      refine dq_gi wi_102_19 wf_102_471 tf_174_67 ?_
      refine rs_pure wi_102_22 rfl ?_
      refine rs_topi (v := 1) (by decide) ?_
      refine rs_pure wi_102_23 rfl ?_
      obtain ⟨c3, e4, h⟩ := wp_lt h
      refine dq_pi wi_102_24 wp_102_471 tf_174_67 rfl rfl e4 ?_
      refine rs_pure wi_102_27 rfl ?_
      refine rs_topi (v := 1) (by decide) ?_
      exact rs_iret wi_102_28 wr_102 (nb_n (by decide)) (hQ (1, c3) h)
    ·
      have h := wp_pos h q
      exact hj15 _ h _
theorem wc_103_432 : rx_ct (rt_P sc fm) 103 432 = some (0, 97, 2) := (by decide +kernel : rt_ct 103 432 = some (0, 97, 2))
theorem wf_103_471 : rx_ft (rt_P sc fm) 103 471 = some (15, 67) := (by decide +kernel : rt_ft 103 471 = some (15, 67))
theorem wf_103_87 : rx_ft (rt_P sc fm) 103 87 = some (15, 9) := (by decide +kernel : rt_ft 103 87 = some (15, 9))
theorem wi_103_0 : ri (rt_P sc fm) 103 0 (.aload_n 0) (1) := ri_of (by decide +kernel) rfl
theorem wi_103_1 : ri (rt_P sc fm) 103 1 (.iconst 2) (2) := ri_of (by decide +kernel) rfl
theorem wi_103_10 : ri (rt_P sc fm) 103 10 (.iaload) (11) := ri_of (by decide +kernel) rfl
theorem wi_103_11 : ri (rt_P sc fm) 103 11 (.invokevirtual 432) (14) := ri_of (by decide +kernel) rfl
theorem wi_103_14 : ri (rt_P sc fm) 103 14 (.return_) (15) := ri_of (by decide +kernel) rfl
theorem wi_103_2 : ri (rt_P sc fm) 103 2 (.aload_n 0) (3) := ri_of (by decide +kernel) rfl
theorem wi_103_3 : ri (rt_P sc fm) 103 3 (.getfield 87) (6) := ri_of (by decide +kernel) rfl
theorem wi_103_6 : ri (rt_P sc fm) 103 6 (.aload_n 0) (7) := ri_of (by decide +kernel) rfl
theorem wi_103_7 : ri (rt_P sc fm) 103 7 (.getfield 471) (10) := ri_of (by decide +kernel) rfl
theorem wr_103 : rx_rt (rt_P sc fm) 103 = none := (by decide +kernel : rt_rt 103 = none)
/-- MarkHouseModel.cant()V -/
def d_103 (n : Nat)  (c : cS) : Option (cS) :=
  if ib (c.1 174 67) 4001 then
  Option.bind (d_97 n 2 (c.1 179 (ix (c.1 174 67))) c) (fun r2 =>
  some r2)
  else none
set_option maxRecDepth 100000 in
set_option maxHeartbeats 4000000 in
theorem sp_103 {F Lo n : Nat}  {c y : cS} {w : cW} {K : cS → Prop} {Q : ((Option Value) ⊕ String) → List va_E → Prop} (hw : rOK fm w) (hF : 1 ≤ F) (hLo : 22 ≤ Lo)  (h : wp (d_103 n  c) K) (hQ : ∀ r, K r → Q (.inl none) (hq false r y w)) : rs (rt_P sc fm) 103 F Lo 0 [(0, .ref 174)] [] (hq false c y w) Q := by
  unfold d_103 at h
  obtain ⟨lv, elv⟩ : ∃ lv : rx_L, lv = [(0, .ref 174)] := ⟨_, rfl⟩
  rw [← elv]
  have l0 : rx_ld lv 0 = some (.ref 174) := by rw [elv]; rfl
  refine rs_aldn wi_103_0 l0 ?_
  refine rs_pure wi_103_1 rfl ?_
  refine rs_topi (v := 2) (by decide) ?_
  refine rs_aldn wi_103_2 l0 ?_
  refine dq_gr wi_103_3 wf_103_87 tf_174_9 ?_
  refine rs_aldn wi_103_6 l0 ?_
  refine dq_gi wi_103_7 wf_103_471 tf_174_67 ?_
  obtain ⟨g1, h⟩ := wp_gd h
  refine dq_iald wi_103_10 t_179 g1 ?_
  refine rs_V wi_103_11 wc_103_432 rfl (dq_isa tf_174_0 wa_15_97) (Nat.le_trans (by decide) hF) (ml_le wm_97 (Nat.le_trans (by decide) hLo)) rfl (sp_97 hw (Nat.le_trans (by decide : 0 ≤ 1 - 1) (Nat.sub_le_sub_right hF 1)) (ml_sub wm_97 (Nat.le_trans (by decide : 0 ≤ 22 - 22) (Nat.sub_le_sub_right hLo 22))) (wp_bind h) (fun r2 h => rs_back0 ?_))
  exact rs_vret wi_103_14 wr_103 (hQ r2 h)
theorem wa_15_103 : rz_cn 15 (rx_yn (rt_P sc fm) 103).cls = true := (by decide +kernel : rz_cn 15 (rt_yn 103).cls = true)
theorem wc_381_480 : rx_ct (rt_P sc fm) 381 480 = some (0, 103, 0) := (by decide +kernel : rt_ct 381 480 = some (0, 103, 0))
theorem wf_381_409 : rx_ft (rt_P sc fm) 381 409 = some (15, 13) := (by decide +kernel : rt_ft 381 409 = some (15, 13))
theorem wf_381_471 : rx_ft (rt_P sc fm) 381 471 = some (15, 67) := (by decide +kernel : rt_ft 381 471 = some (15, 67))
theorem wf_381_84 : rx_ft (rt_P sc fm) 381 84 = some (15, 8) := (by decide +kernel : rt_ft 381 84 = some (15, 8))
theorem wf_381_90 : rx_ft (rt_P sc fm) 381 90 = some (15, 10) := (by decide +kernel : rt_ft 381 90 = some (15, 10))
theorem wi_381_0 : ri (rt_P sc fm) 381 0 (.aload_n 0) (1) := ri_of (by decide +kernel) rfl
theorem wi_381_1 : ri (rt_P sc fm) 381 1 (.getfield 409) (4) := ri_of (by decide +kernel) rfl
theorem wi_381_10 : ri (rt_P sc fm) 381 10 (.getfield 84) (13) := ri_of (by decide +kernel) rfl
theorem wi_381_13 : ri (rt_P sc fm) 381 13 (.aload_n 0) (14) := ri_of (by decide +kernel) rfl
theorem wi_381_14 : ri (rt_P sc fm) 381 14 (.getfield 471) (17) := ri_of (by decide +kernel) rfl
theorem wi_381_17 : ri (rt_P sc fm) 381 17 (.iaload) (18) := ri_of (by decide +kernel) rfl
theorem wi_381_18 : ri (rt_P sc fm) 381 18 (.ifCond .eq 9) (21) := ri_of (by decide +kernel) rfl
theorem wi_381_21 : ri (rt_P sc fm) 381 21 (.aload_n 0) (22) := ri_of (by decide +kernel) rfl
theorem wi_381_22 : ri (rt_P sc fm) 381 22 (.invokevirtual 480) (25) := ri_of (by decide +kernel) rfl
theorem wi_381_25 : ri (rt_P sc fm) 381 25 (.lconst 0) (26) := ri_of (by decide +kernel) rfl
theorem wi_381_26 : ri (rt_P sc fm) 381 26 (.lreturn) (27) := ri_of (by decide +kernel) rfl
theorem wi_381_27 : ri (rt_P sc fm) 381 27 (.aload_n 0) (28) := ri_of (by decide +kernel) rfl
theorem wi_381_28 : ri (rt_P sc fm) 381 28 (.dup) (29) := ri_of (by decide +kernel) rfl
theorem wi_381_29 : ri (rt_P sc fm) 381 29 (.getfield 471) (32) := ri_of (by decide +kernel) rfl
theorem wi_381_32 : ri (rt_P sc fm) 381 32 (.iconst 1) (33) := ri_of (by decide +kernel) rfl
theorem wi_381_33 : ri (rt_P sc fm) 381 33 (.iadd) (34) := ri_of (by decide +kernel) rfl
theorem wi_381_34 : ri (rt_P sc fm) 381 34 (.putfield 471) (37) := ri_of (by decide +kernel) rfl
theorem wi_381_37 : ri (rt_P sc fm) 381 37 (.aload_n 0) (38) := ri_of (by decide +kernel) rfl
theorem wi_381_38 : ri (rt_P sc fm) 381 38 (.getfield 90) (41) := ri_of (by decide +kernel) rfl
theorem wi_381_4 : ri (rt_P sc fm) 381 4 (.ifCond .eq 5) (7) := ri_of (by decide +kernel) rfl
theorem wi_381_41 : ri (rt_P sc fm) 381 41 (.aload_n 0) (42) := ri_of (by decide +kernel) rfl
theorem wi_381_42 : ri (rt_P sc fm) 381 42 (.getfield 471) (45) := ri_of (by decide +kernel) rfl
theorem wi_381_45 : ri (rt_P sc fm) 381 45 (.iconst 1) (46) := ri_of (by decide +kernel) rfl
theorem wi_381_46 : ri (rt_P sc fm) 381 46 (.isub) (47) := ri_of (by decide +kernel) rfl
theorem wi_381_47 : ri (rt_P sc fm) 381 47 (.laload) (48) := ri_of (by decide +kernel) rfl
theorem wi_381_48 : ri (rt_P sc fm) 381 48 (.lreturn) (49) := ri_of (by decide +kernel) rfl
theorem wi_381_7 : ri (rt_P sc fm) 381 7 (.lconst 0) (8) := ri_of (by decide +kernel) rfl
theorem wi_381_8 : ri (rt_P sc fm) 381 8 (.lreturn) (9) := ri_of (by decide +kernel) rfl
theorem wi_381_9 : ri (rt_P sc fm) 381 9 (.aload_n 0) (10) := ri_of (by decide +kernel) rfl
theorem wm_103 : rx_ml (rt_P sc fm) 103 = 1 := (by decide +kernel : rt_ml 103 = 1)
theorem wp_381_471 : rx_pt (rt_P sc fm) 381 471 = some (15, 67, .int) := (by decide +kernel : rt_pt 381 471 = some (15, 67, .int))
theorem wr_381 : rx_rt (rt_P sc fm) 381 = (some FieldType.long) := (by decide +kernel : rt_rt 381 = (some FieldType.long))
/-- MarkHouseModel.wantName()J -/
def d_381 (n : Nat)  (c : cS) : Option (Int64 × cS) :=
  if (c.1 174 13) = 0 then
    if ib (c.1 174 67) 4001 then
    if (c.1 178 (ix (c.1 174 67))) = 0 then
      lt (pI c 174 67 ((c.1 174 67) + 1)) (fun c2 =>
      if ib ((c2.1 174 67) - 1) 4001 then
      some ((c2.2 180 (ix ((c2.1 174 67) - 1))), c2)
      else none)
    else
      Option.bind (d_103 n c) (fun r5 =>
      some (0, r5))
    else none
  else
    some (0, c)
set_option maxRecDepth 100000 in
set_option maxHeartbeats 4000000 in
theorem sp_381 {F Lo n : Nat}  {c y : cS} {w : cW} {K : Int64 × cS → Prop} {Q : ((Option Value) ⊕ String) → List va_E → Prop} (hw : rOK fm w) (hF : 2 ≤ F) (hLo : 42 ≤ Lo)  (h : wp (d_381 n  c) K) (hQ : ∀ r, K r → Q (.inl (some (.long r.1))) (hq false r.2 y w)) : rs (rt_P sc fm) 381 F Lo 0 [(0, .ref 174)] [] (hq false c y w) Q := by
  unfold d_381 at h
  obtain ⟨lv, elv⟩ : ∃ lv : rx_L, lv = [(0, .ref 174)] := ⟨_, rfl⟩
  rw [← elv]
  have l0 : rx_ld lv 0 = some (.ref 174) := by rw [elv]; rfl
  refine rs_aldn wi_381_0 l0 ?_
  refine dq_gi wi_381_1 wf_381_409 tf_174_13 ?_
  refine rs_ifeq (tg := 9) wi_381_4 ⟨by decide, by decide⟩ (fun q => ?_) (fun q => ?_)
  ·
    have h := wp_pos h q
    refine rs_aldn wi_381_9 l0 ?_
    refine dq_gr wi_381_10 wf_381_84 tf_174_8 ?_
    refine rs_aldn wi_381_13 l0 ?_
    refine dq_gi wi_381_14 wf_381_471 tf_174_67 ?_
    obtain ⟨g1, h⟩ := wp_gd h
    refine dq_iald wi_381_17 t_178 g1 ?_
    refine rs_ifeq (tg := 27) wi_381_18 ⟨by decide, by decide⟩ (fun q => ?_) (fun q => ?_)
    ·
      have h := wp_pos h q
      refine rs_aldn wi_381_27 l0 ?_
      refine rs_pure wi_381_28 rfl ?_
      refine dq_gi wi_381_29 wf_381_471 tf_174_67 ?_
      refine rs_pure wi_381_32 rfl ?_
      refine rs_topi (v := 1) (by decide) ?_
      refine rs_pure wi_381_33 rfl ?_
      obtain ⟨c2, e3, h⟩ := wp_lt h
      refine dq_pi wi_381_34 wp_381_471 tf_174_67 rfl rfl e3 ?_
      refine rs_aldn wi_381_37 l0 ?_
      refine dq_gr wi_381_38 wf_381_90 tf_174_10 ?_
      refine rs_aldn wi_381_41 l0 ?_
      refine dq_gi wi_381_42 wf_381_471 tf_174_67 ?_
      refine rs_pure wi_381_45 rfl ?_
      refine rs_topi (v := 1) (by decide) ?_
      refine rs_pure wi_381_46 rfl ?_
      obtain ⟨g4, h⟩ := wp_gd h
      refine dq_lald wi_381_47 t_180 g4 ?_
      exact rs_lret wi_381_48 wr_381 (hQ ((c2.2 180 (ix ((c2.1 174 67) - 1))), c2) h)
    ·
      have h := wp_neg h q
      refine rs_aldn wi_381_21 l0 ?_
      refine rs_V wi_381_22 wc_381_480 rfl (dq_isa tf_174_0 wa_15_103) (Nat.le_trans (by decide) hF) (ml_le wm_103 (Nat.le_trans (by decide) hLo)) rfl (sp_103 hw (Nat.le_trans (by decide : 1 ≤ 2 - 1) (Nat.sub_le_sub_right hF 1)) (ml_sub wm_103 (Nat.le_trans (by decide : 22 ≤ 42 - 20) (Nat.sub_le_sub_right hLo 20))) (wp_bind h) (fun r5 h => rs_back0 ?_))
      refine rs_pure wi_381_25 rfl ?_
      refine rs_topl (v := 0) (by decide) ?_
      exact rs_lret wi_381_26 wr_381 (hQ (0, r5) h)
  ·
    have h := wp_neg h q
    refine rs_pure wi_381_7 rfl ?_
    refine rs_topl (v := 0) (by decide) ?_
    exact rs_lret wi_381_8 wr_381 (hQ (0, c) h)
theorem t_181 : ta false 181 1 4 := ⟨rfl, by decide, by decide⟩
theorem tf_174_15 : fo false 174 15 15 (.int 0) := ⟨_, rfl, rfl, by decide, by decide⟩
theorem tf_174_16 : fo false 174 15 16 (.ref 181) := ⟨_, rfl, rfl, by decide, by decide⟩
theorem wf_372_447 : rx_ft (rt_P sc fm) 372 447 = some (15, 15) := (by decide +kernel : rt_ft 372 447 = some (15, 15))
theorem wf_372_94 : rx_ft (rt_P sc fm) 372 94 = some (15, 16) := (by decide +kernel : rt_ft 372 94 = some (15, 16))
theorem wi_372_0 : ri (rt_P sc fm) 372 0 (.iconst 0) (1) := ri_of (by decide +kernel) rfl
theorem wi_372_1 : ri (rt_P sc fm) 372 1 (.istore_n 3) (2) := ri_of (by decide +kernel) rfl
theorem wi_372_10 : ri (rt_P sc fm) 372 10 (.aload_n 0) (11) := ri_of (by decide +kernel) rfl
theorem wi_372_11 : ri (rt_P sc fm) 372 11 (.getfield 94) (14) := ri_of (by decide +kernel) rfl
theorem wi_372_14 : ri (rt_P sc fm) 372 14 (.iload_n 3) (15) := ri_of (by decide +kernel) rfl
theorem wi_372_15 : ri (rt_P sc fm) 372 15 (.laload) (16) := ri_of (by decide +kernel) rfl
theorem wi_372_16 : ri (rt_P sc fm) 372 16 (.lload_n 1) (17) := ri_of (by decide +kernel) rfl
theorem wi_372_17 : ri (rt_P sc fm) 372 17 (.lcmp) (18) := ri_of (by decide +kernel) rfl
theorem wi_372_18 : ri (rt_P sc fm) 372 18 (.ifCond .ne 5) (21) := ri_of (by decide +kernel) rfl
theorem wi_372_2 : ri (rt_P sc fm) 372 2 (.iload_n 3) (3) := ri_of (by decide +kernel) rfl
theorem wi_372_21 : ri (rt_P sc fm) 372 21 (.iload_n 3) (22) := ri_of (by decide +kernel) rfl
theorem wi_372_22 : ri (rt_P sc fm) 372 22 (.ireturn) (23) := ri_of (by decide +kernel) rfl
theorem wi_372_23 : ri (rt_P sc fm) 372 23 (.iinc 3 1) (26) := ri_of (by decide +kernel) rfl
theorem wi_372_26 : ri (rt_P sc fm) 372 26 (.goto (-24)) (29) := ri_of (by decide +kernel) rfl
theorem wi_372_29 : ri (rt_P sc fm) 372 29 (.iconst (-1)) (30) := ri_of (by decide +kernel) rfl
theorem wi_372_3 : ri (rt_P sc fm) 372 3 (.aload_n 0) (4) := ri_of (by decide +kernel) rfl
theorem wi_372_30 : ri (rt_P sc fm) 372 30 (.ireturn) (31) := ri_of (by decide +kernel) rfl
theorem wi_372_4 : ri (rt_P sc fm) 372 4 (.getfield 447) (7) := ri_of (by decide +kernel) rfl
theorem wi_372_7 : ri (rt_P sc fm) 372 7 (.if_icmp .ge 22) (10) := ri_of (by decide +kernel) rfl
theorem wr_372 : rx_rt (rt_P sc fm) 372 = (some FieldType.int) := (by decide +kernel : rt_rt 372 = (some FieldType.int))
/-- MarkHouseModel.orderOf(J)I -/
def d_372 (n : Nat) (a1 : Int64) (c : cS) : Option (Int32) :=
  Option.bind (whl (R := (Unit) ⊕ (Int32)) (fun s2 : Int32 =>
    if (c.1 174 15) ≤ s2 then
      some (.inr (.inl ()))
    else
      if ib s2 4 then
      if (lg_cmp (c.2 181 (ix s2)) a1) = 0 then
        some (.inr (.inr s2))
      else
        lt (s2 + 1 : Int32) (fun v5 =>
        some (.inl v5))
      else none) n 0)
  (Sum.elim (fun x7 : Unit =>
    some (-1))
  (fun x8 : Int32 =>
    some x8))
set_option maxRecDepth 100000 in
set_option maxHeartbeats 4000000 in
theorem sp_372 {F Lo n : Nat} {a1 : Int64} {c y : cS} {w : cW} {K : Int32 → Prop} {Q : ((Option Value) ⊕ String) → List va_E → Prop} (hw : rOK fm w) (hF : 0 ≤ F) (hLo : 0 ≤ Lo)  (h : wp (d_372 n a1 c) K) (hQ : ∀ r, K r → Q (.inl (some (.int r))) (hq false c y w)) : rs (rt_P sc fm) 372 F Lo 0 [(0, .ref 174), (1, .long a1)] [] (hq false c y w) Q := by
  unfold d_372 at h
  obtain ⟨lv, elv⟩ : ∃ lv : rx_L, lv = [(0, .ref 174), (1, .long a1)] := ⟨_, rfl⟩
  rw [← elv]
  have l0 : rx_ld lv 0 = some (.ref 174) := by rw [elv]; rfl
  have l1 : rx_ld lv 1 = some (.long a1) := by rw [elv]; rfl
  refine rs_pure wi_372_0 rfl ?_
  refine rs_topi (v := 0) (by decide) ?_
  refine dl_istn wi_372_1 rfl (fun lv l3 t1 => ?_)
  have l0 := t1 _ _ (by decide) (Or.inl rfl) l0
  have l1 := t1 _ _ (by decide) (Or.inr (by decide)) l1
  refine whl_ex (A := fun s2 : Int32 => ∀ lv, rx_ld lv 0 = some (.ref 174) → rx_ld lv 1 = some (.long a1) → rx_ld lv 3 = some (.int s2) → rs (rt_P sc fm) 372 F Lo 2 lv [] (hq false c y w) Q) (B := (Sum.elim (fun x7 : Unit => ∀ lv, rs (rt_P sc fm) 372 F Lo 29 lv [] (hq false c y w) Q) (fun x8 : Int32 => ∀ lv, rx_ld lv 3 = some (.int x8) → rs (rt_P sc fm) 372 F Lo 21 lv [] (hq false c y w) Q))) ?_ ?_ _ _ (wp_bind h) _ l0 l1 l3
  · intro s2 h lv l0 l1 l3
    refine rs_ildn wi_372_2 l3 ?_
    refine rs_aldn wi_372_3 l0 ?_
    refine dq_gi wi_372_4 wf_372_447 tf_174_15 ?_
    refine rs_icge (tg := 29) wi_372_7 ⟨by decide, by decide⟩ (fun q => ?_) (fun q => ?_)
    ·
      have h := wp_pos h q
      exact h _
    ·
      have h := wp_neg h q
      refine rs_aldn wi_372_10 l0 ?_
      refine dq_gr wi_372_11 wf_372_94 tf_174_16 ?_
      refine rs_ildn wi_372_14 l3 ?_
      obtain ⟨g3, h⟩ := wp_gd h
      refine dq_lald wi_372_15 t_181 g3 ?_
      refine rs_lldn wi_372_16 l1 ?_
      refine rs_pure wi_372_17 rfl ?_
      refine rs_ifne (tg := 23) wi_372_18 ⟨by decide, by decide⟩ (fun q => ?_) (fun q => ?_)
      ·
        have h := wp_neg h q
        obtain ⟨v5, e6, h⟩ := wp_lt h
        refine dl_inc wi_372_23 l3 rfl e6 (fun lv l3 t4 => ?_)
        have l0 := t4 _ _ (by decide) (Or.inl rfl) l0
        have l1 := t4 _ _ (by decide) (Or.inr (by decide)) l1
        refine rs_goto (tg := 2) wi_372_26 ⟨by decide, by decide⟩ ?_
        exact h _ l0 l1 l3
      ·
        have h := wp_pos h q
        exact h _ l3
  ·
    refine sum_all ?_ ?_
    ·
      intro x7 h lv
      have h := wp_inl h
      refine rs_pure wi_372_29 rfl ?_
      refine rs_topi (v := (-1)) (by decide) ?_
      exact rs_iret wi_372_30 wr_372 rfl (hQ (-1) h)
    ·
      intro x8 h lv l3
      have h := wp_inr h
      refine rs_ildn wi_372_21 l3 ?_
      exact rs_iret wi_372_22 wr_372 rfl (hQ x8 h)
theorem t_189 : ta false 189 1 12 := ⟨rfl, by decide, by decide⟩
theorem tf_174_24 : fo false 174 15 24 (.int 0) := ⟨_, rfl, rfl, by decide, by decide⟩
theorem tf_174_25 : fo false 174 15 25 (.ref 189) := ⟨_, rfl, rfl, by decide, by decide⟩
theorem wf_373_119 : rx_ft (rt_P sc fm) 373 119 = some (15, 25) := (by decide +kernel : rt_ft 373 119 = some (15, 25))
theorem wf_373_450 : rx_ft (rt_P sc fm) 373 450 = some (15, 24) := (by decide +kernel : rt_ft 373 450 = some (15, 24))
theorem wi_373_0 : ri (rt_P sc fm) 373 0 (.iconst 0) (1) := ri_of (by decide +kernel) rfl
theorem wi_373_1 : ri (rt_P sc fm) 373 1 (.istore_n 3) (2) := ri_of (by decide +kernel) rfl
theorem wi_373_10 : ri (rt_P sc fm) 373 10 (.aload_n 0) (11) := ri_of (by decide +kernel) rfl
theorem wi_373_11 : ri (rt_P sc fm) 373 11 (.getfield 119) (14) := ri_of (by decide +kernel) rfl
theorem wi_373_14 : ri (rt_P sc fm) 373 14 (.iload_n 3) (15) := ri_of (by decide +kernel) rfl
theorem wi_373_15 : ri (rt_P sc fm) 373 15 (.laload) (16) := ri_of (by decide +kernel) rfl
theorem wi_373_16 : ri (rt_P sc fm) 373 16 (.lload_n 1) (17) := ri_of (by decide +kernel) rfl
theorem wi_373_17 : ri (rt_P sc fm) 373 17 (.lcmp) (18) := ri_of (by decide +kernel) rfl
theorem wi_373_18 : ri (rt_P sc fm) 373 18 (.ifCond .ne 5) (21) := ri_of (by decide +kernel) rfl
theorem wi_373_2 : ri (rt_P sc fm) 373 2 (.iload_n 3) (3) := ri_of (by decide +kernel) rfl
theorem wi_373_21 : ri (rt_P sc fm) 373 21 (.iload_n 3) (22) := ri_of (by decide +kernel) rfl
theorem wi_373_22 : ri (rt_P sc fm) 373 22 (.ireturn) (23) := ri_of (by decide +kernel) rfl
theorem wi_373_23 : ri (rt_P sc fm) 373 23 (.iinc 3 1) (26) := ri_of (by decide +kernel) rfl
theorem wi_373_26 : ri (rt_P sc fm) 373 26 (.goto (-24)) (29) := ri_of (by decide +kernel) rfl
theorem wi_373_29 : ri (rt_P sc fm) 373 29 (.iconst (-1)) (30) := ri_of (by decide +kernel) rfl
theorem wi_373_3 : ri (rt_P sc fm) 373 3 (.aload_n 0) (4) := ri_of (by decide +kernel) rfl
theorem wi_373_30 : ri (rt_P sc fm) 373 30 (.ireturn) (31) := ri_of (by decide +kernel) rfl
theorem wi_373_4 : ri (rt_P sc fm) 373 4 (.getfield 450) (7) := ri_of (by decide +kernel) rfl
theorem wi_373_7 : ri (rt_P sc fm) 373 7 (.if_icmp .ge 22) (10) := ri_of (by decide +kernel) rfl
theorem wr_373 : rx_rt (rt_P sc fm) 373 = (some FieldType.int) := (by decide +kernel : rt_rt 373 = (some FieldType.int))
/-- MarkHouseModel.kindOf(J)I -/
def d_373 (n : Nat) (a1 : Int64) (c : cS) : Option (Int32) :=
  Option.bind (whl (R := (Unit) ⊕ (Int32)) (fun s2 : Int32 =>
    if (c.1 174 24) ≤ s2 then
      some (.inr (.inl ()))
    else
      if ib s2 12 then
      if (lg_cmp (c.2 189 (ix s2)) a1) = 0 then
        some (.inr (.inr s2))
      else
        lt (s2 + 1 : Int32) (fun v5 =>
        some (.inl v5))
      else none) n 0)
  (Sum.elim (fun x7 : Unit =>
    some (-1))
  (fun x8 : Int32 =>
    some x8))
set_option maxRecDepth 100000 in
set_option maxHeartbeats 4000000 in
theorem sp_373 {F Lo n : Nat} {a1 : Int64} {c y : cS} {w : cW} {K : Int32 → Prop} {Q : ((Option Value) ⊕ String) → List va_E → Prop} (hw : rOK fm w) (hF : 0 ≤ F) (hLo : 0 ≤ Lo)  (h : wp (d_373 n a1 c) K) (hQ : ∀ r, K r → Q (.inl (some (.int r))) (hq false c y w)) : rs (rt_P sc fm) 373 F Lo 0 [(0, .ref 174), (1, .long a1)] [] (hq false c y w) Q := by
  unfold d_373 at h
  obtain ⟨lv, elv⟩ : ∃ lv : rx_L, lv = [(0, .ref 174), (1, .long a1)] := ⟨_, rfl⟩
  rw [← elv]
  have l0 : rx_ld lv 0 = some (.ref 174) := by rw [elv]; rfl
  have l1 : rx_ld lv 1 = some (.long a1) := by rw [elv]; rfl
  refine rs_pure wi_373_0 rfl ?_
  refine rs_topi (v := 0) (by decide) ?_
  refine dl_istn wi_373_1 rfl (fun lv l3 t1 => ?_)
  have l0 := t1 _ _ (by decide) (Or.inl rfl) l0
  have l1 := t1 _ _ (by decide) (Or.inr (by decide)) l1
  refine whl_ex (A := fun s2 : Int32 => ∀ lv, rx_ld lv 0 = some (.ref 174) → rx_ld lv 1 = some (.long a1) → rx_ld lv 3 = some (.int s2) → rs (rt_P sc fm) 373 F Lo 2 lv [] (hq false c y w) Q) (B := (Sum.elim (fun x7 : Unit => ∀ lv, rs (rt_P sc fm) 373 F Lo 29 lv [] (hq false c y w) Q) (fun x8 : Int32 => ∀ lv, rx_ld lv 3 = some (.int x8) → rs (rt_P sc fm) 373 F Lo 21 lv [] (hq false c y w) Q))) ?_ ?_ _ _ (wp_bind h) _ l0 l1 l3
  · intro s2 h lv l0 l1 l3
    refine rs_ildn wi_373_2 l3 ?_
    refine rs_aldn wi_373_3 l0 ?_
    refine dq_gi wi_373_4 wf_373_450 tf_174_24 ?_
    refine rs_icge (tg := 29) wi_373_7 ⟨by decide, by decide⟩ (fun q => ?_) (fun q => ?_)
    ·
      have h := wp_pos h q
      exact h _
    ·
      have h := wp_neg h q
      refine rs_aldn wi_373_10 l0 ?_
      refine dq_gr wi_373_11 wf_373_119 tf_174_25 ?_
      refine rs_ildn wi_373_14 l3 ?_
      obtain ⟨g3, h⟩ := wp_gd h
      refine dq_lald wi_373_15 t_189 g3 ?_
      refine rs_lldn wi_373_16 l1 ?_
      refine rs_pure wi_373_17 rfl ?_
      refine rs_ifne (tg := 23) wi_373_18 ⟨by decide, by decide⟩ (fun q => ?_) (fun q => ?_)
      ·
        have h := wp_neg h q
        obtain ⟨v5, e6, h⟩ := wp_lt h
        refine dl_inc wi_373_23 l3 rfl e6 (fun lv l3 t4 => ?_)
        have l0 := t4 _ _ (by decide) (Or.inl rfl) l0
        have l1 := t4 _ _ (by decide) (Or.inr (by decide)) l1
        refine rs_goto (tg := 2) wi_373_26 ⟨by decide, by decide⟩ ?_
        exact h _ l0 l1 l3
      ·
        have h := wp_pos h q
        exact h _ l3
  ·
    refine sum_all ?_ ?_
    ·
      intro x7 h lv
      have h := wp_inl h
      refine rs_pure wi_373_29 rfl ?_
      refine rs_topi (v := (-1)) (by decide) ?_
      exact rs_iret wi_373_30 wr_373 rfl (hQ (-1) h)
    ·
      intro x8 h lv l3
      have h := wp_inr h
      refine rs_ildn wi_373_21 l3 ?_
      exact rs_iret wi_373_22 wr_373 rfl (hQ x8 h)
theorem t_198 : ta false 198 1 6 := ⟨rfl, by decide, by decide⟩
theorem tf_174_34 : fo false 174 15 34 (.int 0) := ⟨_, rfl, rfl, by decide, by decide⟩
theorem tf_174_35 : fo false 174 15 35 (.ref 198) := ⟨_, rfl, rfl, by decide, by decide⟩
theorem wf_374_146 : rx_ft (rt_P sc fm) 374 146 = some (15, 35) := (by decide +kernel : rt_ft 374 146 = some (15, 35))
theorem wf_374_453 : rx_ft (rt_P sc fm) 374 453 = some (15, 34) := (by decide +kernel : rt_ft 374 453 = some (15, 34))
theorem wi_374_0 : ri (rt_P sc fm) 374 0 (.iconst 0) (1) := ri_of (by decide +kernel) rfl
theorem wi_374_1 : ri (rt_P sc fm) 374 1 (.istore_n 3) (2) := ri_of (by decide +kernel) rfl
theorem wi_374_10 : ri (rt_P sc fm) 374 10 (.aload_n 0) (11) := ri_of (by decide +kernel) rfl
theorem wi_374_11 : ri (rt_P sc fm) 374 11 (.getfield 146) (14) := ri_of (by decide +kernel) rfl
theorem wi_374_14 : ri (rt_P sc fm) 374 14 (.iload_n 3) (15) := ri_of (by decide +kernel) rfl
theorem wi_374_15 : ri (rt_P sc fm) 374 15 (.laload) (16) := ri_of (by decide +kernel) rfl
theorem wi_374_16 : ri (rt_P sc fm) 374 16 (.lload_n 1) (17) := ri_of (by decide +kernel) rfl
theorem wi_374_17 : ri (rt_P sc fm) 374 17 (.lcmp) (18) := ri_of (by decide +kernel) rfl
theorem wi_374_18 : ri (rt_P sc fm) 374 18 (.ifCond .ne 5) (21) := ri_of (by decide +kernel) rfl
theorem wi_374_2 : ri (rt_P sc fm) 374 2 (.iload_n 3) (3) := ri_of (by decide +kernel) rfl
theorem wi_374_21 : ri (rt_P sc fm) 374 21 (.iload_n 3) (22) := ri_of (by decide +kernel) rfl
theorem wi_374_22 : ri (rt_P sc fm) 374 22 (.ireturn) (23) := ri_of (by decide +kernel) rfl
theorem wi_374_23 : ri (rt_P sc fm) 374 23 (.iinc 3 1) (26) := ri_of (by decide +kernel) rfl
theorem wi_374_26 : ri (rt_P sc fm) 374 26 (.goto (-24)) (29) := ri_of (by decide +kernel) rfl
theorem wi_374_29 : ri (rt_P sc fm) 374 29 (.iconst (-1)) (30) := ri_of (by decide +kernel) rfl
theorem wi_374_3 : ri (rt_P sc fm) 374 3 (.aload_n 0) (4) := ri_of (by decide +kernel) rfl
theorem wi_374_30 : ri (rt_P sc fm) 374 30 (.ireturn) (31) := ri_of (by decide +kernel) rfl
theorem wi_374_4 : ri (rt_P sc fm) 374 4 (.getfield 453) (7) := ri_of (by decide +kernel) rfl
theorem wi_374_7 : ri (rt_P sc fm) 374 7 (.if_icmp .ge 22) (10) := ri_of (by decide +kernel) rfl
theorem wr_374 : rx_rt (rt_P sc fm) 374 = (some FieldType.int) := (by decide +kernel : rt_rt 374 = (some FieldType.int))
/-- MarkHouseModel.makerOf(J)I -/
def d_374 (n : Nat) (a1 : Int64) (c : cS) : Option (Int32) :=
  Option.bind (whl (R := (Unit) ⊕ (Int32)) (fun s2 : Int32 =>
    if (c.1 174 34) ≤ s2 then
      some (.inr (.inl ()))
    else
      if ib s2 6 then
      if (lg_cmp (c.2 198 (ix s2)) a1) = 0 then
        some (.inr (.inr s2))
      else
        lt (s2 + 1 : Int32) (fun v5 =>
        some (.inl v5))
      else none) n 0)
  (Sum.elim (fun x7 : Unit =>
    some (-1))
  (fun x8 : Int32 =>
    some x8))
set_option maxRecDepth 100000 in
set_option maxHeartbeats 4000000 in
theorem sp_374 {F Lo n : Nat} {a1 : Int64} {c y : cS} {w : cW} {K : Int32 → Prop} {Q : ((Option Value) ⊕ String) → List va_E → Prop} (hw : rOK fm w) (hF : 0 ≤ F) (hLo : 0 ≤ Lo)  (h : wp (d_374 n a1 c) K) (hQ : ∀ r, K r → Q (.inl (some (.int r))) (hq false c y w)) : rs (rt_P sc fm) 374 F Lo 0 [(0, .ref 174), (1, .long a1)] [] (hq false c y w) Q := by
  unfold d_374 at h
  obtain ⟨lv, elv⟩ : ∃ lv : rx_L, lv = [(0, .ref 174), (1, .long a1)] := ⟨_, rfl⟩
  rw [← elv]
  have l0 : rx_ld lv 0 = some (.ref 174) := by rw [elv]; rfl
  have l1 : rx_ld lv 1 = some (.long a1) := by rw [elv]; rfl
  refine rs_pure wi_374_0 rfl ?_
  refine rs_topi (v := 0) (by decide) ?_
  refine dl_istn wi_374_1 rfl (fun lv l3 t1 => ?_)
  have l0 := t1 _ _ (by decide) (Or.inl rfl) l0
  have l1 := t1 _ _ (by decide) (Or.inr (by decide)) l1
  refine whl_ex (A := fun s2 : Int32 => ∀ lv, rx_ld lv 0 = some (.ref 174) → rx_ld lv 1 = some (.long a1) → rx_ld lv 3 = some (.int s2) → rs (rt_P sc fm) 374 F Lo 2 lv [] (hq false c y w) Q) (B := (Sum.elim (fun x7 : Unit => ∀ lv, rs (rt_P sc fm) 374 F Lo 29 lv [] (hq false c y w) Q) (fun x8 : Int32 => ∀ lv, rx_ld lv 3 = some (.int x8) → rs (rt_P sc fm) 374 F Lo 21 lv [] (hq false c y w) Q))) ?_ ?_ _ _ (wp_bind h) _ l0 l1 l3
  · intro s2 h lv l0 l1 l3
    refine rs_ildn wi_374_2 l3 ?_
    refine rs_aldn wi_374_3 l0 ?_
    refine dq_gi wi_374_4 wf_374_453 tf_174_34 ?_
    refine rs_icge (tg := 29) wi_374_7 ⟨by decide, by decide⟩ (fun q => ?_) (fun q => ?_)
    ·
      have h := wp_pos h q
      exact h _
    ·
      have h := wp_neg h q
      refine rs_aldn wi_374_10 l0 ?_
      refine dq_gr wi_374_11 wf_374_146 tf_174_35 ?_
      refine rs_ildn wi_374_14 l3 ?_
      obtain ⟨g3, h⟩ := wp_gd h
      refine dq_lald wi_374_15 t_198 g3 ?_
      refine rs_lldn wi_374_16 l1 ?_
      refine rs_pure wi_374_17 rfl ?_
      refine rs_ifne (tg := 23) wi_374_18 ⟨by decide, by decide⟩ (fun q => ?_) (fun q => ?_)
      ·
        have h := wp_neg h q
        obtain ⟨v5, e6, h⟩ := wp_lt h
        refine dl_inc wi_374_23 l3 rfl e6 (fun lv l3 t4 => ?_)
        have l0 := t4 _ _ (by decide) (Or.inl rfl) l0
        have l1 := t4 _ _ (by decide) (Or.inr (by decide)) l1
        refine rs_goto (tg := 2) wi_374_26 ⟨by decide, by decide⟩ ?_
        exact h _ l0 l1 l3
      ·
        have h := wp_pos h q
        exact h _ l3
  ·
    refine sum_all ?_ ?_
    ·
      intro x7 h lv
      have h := wp_inl h
      refine rs_pure wi_374_29 rfl ?_
      refine rs_topi (v := (-1)) (by decide) ?_
      exact rs_iret wi_374_30 wr_374 rfl (hQ (-1) h)
    ·
      intro x8 h lv l3
      have h := wp_inr h
      refine rs_ildn wi_374_21 l3 ?_
      exact rs_iret wi_374_22 wr_374 rfl (hQ x8 h)
theorem t_200 : ta false 200 1 12 := ⟨rfl, by decide, by decide⟩
theorem tf_174_37 : fo false 174 15 37 (.int 0) := ⟨_, rfl, rfl, by decide, by decide⟩
theorem tf_174_38 : fo false 174 15 38 (.ref 200) := ⟨_, rfl, rfl, by decide, by decide⟩
theorem wf_375_152 : rx_ft (rt_P sc fm) 375 152 = some (15, 38) := (by decide +kernel : rt_ft 375 152 = some (15, 38))
theorem wf_375_456 : rx_ft (rt_P sc fm) 375 456 = some (15, 37) := (by decide +kernel : rt_ft 375 456 = some (15, 37))
theorem wi_375_0 : ri (rt_P sc fm) 375 0 (.iconst 0) (1) := ri_of (by decide +kernel) rfl
theorem wi_375_1 : ri (rt_P sc fm) 375 1 (.istore_n 3) (2) := ri_of (by decide +kernel) rfl
theorem wi_375_10 : ri (rt_P sc fm) 375 10 (.aload_n 0) (11) := ri_of (by decide +kernel) rfl
theorem wi_375_11 : ri (rt_P sc fm) 375 11 (.getfield 152) (14) := ri_of (by decide +kernel) rfl
theorem wi_375_14 : ri (rt_P sc fm) 375 14 (.iload_n 3) (15) := ri_of (by decide +kernel) rfl
theorem wi_375_15 : ri (rt_P sc fm) 375 15 (.laload) (16) := ri_of (by decide +kernel) rfl
theorem wi_375_16 : ri (rt_P sc fm) 375 16 (.lload_n 1) (17) := ri_of (by decide +kernel) rfl
theorem wi_375_17 : ri (rt_P sc fm) 375 17 (.lcmp) (18) := ri_of (by decide +kernel) rfl
theorem wi_375_18 : ri (rt_P sc fm) 375 18 (.ifCond .ne 5) (21) := ri_of (by decide +kernel) rfl
theorem wi_375_2 : ri (rt_P sc fm) 375 2 (.iload_n 3) (3) := ri_of (by decide +kernel) rfl
theorem wi_375_21 : ri (rt_P sc fm) 375 21 (.iload_n 3) (22) := ri_of (by decide +kernel) rfl
theorem wi_375_22 : ri (rt_P sc fm) 375 22 (.ireturn) (23) := ri_of (by decide +kernel) rfl
theorem wi_375_23 : ri (rt_P sc fm) 375 23 (.iinc 3 1) (26) := ri_of (by decide +kernel) rfl
theorem wi_375_26 : ri (rt_P sc fm) 375 26 (.goto (-24)) (29) := ri_of (by decide +kernel) rfl
theorem wi_375_29 : ri (rt_P sc fm) 375 29 (.iconst (-1)) (30) := ri_of (by decide +kernel) rfl
theorem wi_375_3 : ri (rt_P sc fm) 375 3 (.aload_n 0) (4) := ri_of (by decide +kernel) rfl
theorem wi_375_30 : ri (rt_P sc fm) 375 30 (.ireturn) (31) := ri_of (by decide +kernel) rfl
theorem wi_375_4 : ri (rt_P sc fm) 375 4 (.getfield 456) (7) := ri_of (by decide +kernel) rfl
theorem wi_375_7 : ri (rt_P sc fm) 375 7 (.if_icmp .ge 22) (10) := ri_of (by decide +kernel) rfl
theorem wr_375 : rx_rt (rt_P sc fm) 375 = (some FieldType.int) := (by decide +kernel : rt_rt 375 = (some FieldType.int))
/-- MarkHouseModel.classOf(J)I -/
def d_375 (n : Nat) (a1 : Int64) (c : cS) : Option (Int32) :=
  Option.bind (whl (R := (Unit) ⊕ (Int32)) (fun s2 : Int32 =>
    if (c.1 174 37) ≤ s2 then
      some (.inr (.inl ()))
    else
      if ib s2 12 then
      if (lg_cmp (c.2 200 (ix s2)) a1) = 0 then
        some (.inr (.inr s2))
      else
        lt (s2 + 1 : Int32) (fun v5 =>
        some (.inl v5))
      else none) n 0)
  (Sum.elim (fun x7 : Unit =>
    some (-1))
  (fun x8 : Int32 =>
    some x8))
set_option maxRecDepth 100000 in
set_option maxHeartbeats 4000000 in
theorem sp_375 {F Lo n : Nat} {a1 : Int64} {c y : cS} {w : cW} {K : Int32 → Prop} {Q : ((Option Value) ⊕ String) → List va_E → Prop} (hw : rOK fm w) (hF : 0 ≤ F) (hLo : 0 ≤ Lo)  (h : wp (d_375 n a1 c) K) (hQ : ∀ r, K r → Q (.inl (some (.int r))) (hq false c y w)) : rs (rt_P sc fm) 375 F Lo 0 [(0, .ref 174), (1, .long a1)] [] (hq false c y w) Q := by
  unfold d_375 at h
  obtain ⟨lv, elv⟩ : ∃ lv : rx_L, lv = [(0, .ref 174), (1, .long a1)] := ⟨_, rfl⟩
  rw [← elv]
  have l0 : rx_ld lv 0 = some (.ref 174) := by rw [elv]; rfl
  have l1 : rx_ld lv 1 = some (.long a1) := by rw [elv]; rfl
  refine rs_pure wi_375_0 rfl ?_
  refine rs_topi (v := 0) (by decide) ?_
  refine dl_istn wi_375_1 rfl (fun lv l3 t1 => ?_)
  have l0 := t1 _ _ (by decide) (Or.inl rfl) l0
  have l1 := t1 _ _ (by decide) (Or.inr (by decide)) l1
  refine whl_ex (A := fun s2 : Int32 => ∀ lv, rx_ld lv 0 = some (.ref 174) → rx_ld lv 1 = some (.long a1) → rx_ld lv 3 = some (.int s2) → rs (rt_P sc fm) 375 F Lo 2 lv [] (hq false c y w) Q) (B := (Sum.elim (fun x7 : Unit => ∀ lv, rs (rt_P sc fm) 375 F Lo 29 lv [] (hq false c y w) Q) (fun x8 : Int32 => ∀ lv, rx_ld lv 3 = some (.int x8) → rs (rt_P sc fm) 375 F Lo 21 lv [] (hq false c y w) Q))) ?_ ?_ _ _ (wp_bind h) _ l0 l1 l3
  · intro s2 h lv l0 l1 l3
    refine rs_ildn wi_375_2 l3 ?_
    refine rs_aldn wi_375_3 l0 ?_
    refine dq_gi wi_375_4 wf_375_456 tf_174_37 ?_
    refine rs_icge (tg := 29) wi_375_7 ⟨by decide, by decide⟩ (fun q => ?_) (fun q => ?_)
    ·
      have h := wp_pos h q
      exact h _
    ·
      have h := wp_neg h q
      refine rs_aldn wi_375_10 l0 ?_
      refine dq_gr wi_375_11 wf_375_152 tf_174_38 ?_
      refine rs_ildn wi_375_14 l3 ?_
      obtain ⟨g3, h⟩ := wp_gd h
      refine dq_lald wi_375_15 t_200 g3 ?_
      refine rs_lldn wi_375_16 l1 ?_
      refine rs_pure wi_375_17 rfl ?_
      refine rs_ifne (tg := 23) wi_375_18 ⟨by decide, by decide⟩ (fun q => ?_) (fun q => ?_)
      ·
        have h := wp_neg h q
        obtain ⟨v5, e6, h⟩ := wp_lt h
        refine dl_inc wi_375_23 l3 rfl e6 (fun lv l3 t4 => ?_)
        have l0 := t4 _ _ (by decide) (Or.inl rfl) l0
        have l1 := t4 _ _ (by decide) (Or.inr (by decide)) l1
        refine rs_goto (tg := 2) wi_375_26 ⟨by decide, by decide⟩ ?_
        exact h _ l0 l1 l3
      ·
        have h := wp_pos h q
        exact h _ l3
  ·
    refine sum_all ?_ ?_
    ·
      intro x7 h lv
      have h := wp_inl h
      refine rs_pure wi_375_29 rfl ?_
      refine rs_topi (v := (-1)) (by decide) ?_
      exact rs_iret wi_375_30 wr_375 rfl (hQ (-1) h)
    ·
      intro x8 h lv l3
      have h := wp_inr h
      refine rs_ildn wi_375_21 l3 ?_
      exact rs_iret wi_375_22 wr_375 rfl (hQ x8 h)
theorem wa_15_372 : rz_cn 15 (rx_yn (rt_P sc fm) 372).cls = true := (by decide +kernel : rz_cn 15 (rt_yn 372).cls = true)
theorem wa_15_373 : rz_cn 15 (rx_yn (rt_P sc fm) 373).cls = true := (by decide +kernel : rz_cn 15 (rt_yn 373).cls = true)
theorem wa_15_374 : rz_cn 15 (rx_yn (rt_P sc fm) 374).cls = true := (by decide +kernel : rz_cn 15 (rt_yn 374).cls = true)
theorem wa_15_375 : rz_cn 15 (rx_yn (rt_P sc fm) 375).cls = true := (by decide +kernel : rz_cn 15 (rt_yn 375).cls = true)
theorem wc_376_459 : rx_ct (rt_P sc fm) 376 459 = some (0, 372, 1) := (by decide +kernel : rt_ct 376 459 = some (0, 372, 1))
theorem wc_376_462 : rx_ct (rt_P sc fm) 376 462 = some (0, 373, 1) := (by decide +kernel : rt_ct 376 462 = some (0, 373, 1))
theorem wc_376_465 : rx_ct (rt_P sc fm) 376 465 = some (0, 374, 1) := (by decide +kernel : rt_ct 376 465 = some (0, 374, 1))
theorem wc_376_468 : rx_ct (rt_P sc fm) 376 468 = some (0, 375, 1) := (by decide +kernel : rt_ct 376 468 = some (0, 375, 1))
theorem wi_376_0 : ri (rt_P sc fm) 376 0 (.aload_n 0) (1) := ri_of (by decide +kernel) rfl
theorem wi_376_1 : ri (rt_P sc fm) 376 1 (.lload_n 1) (2) := ri_of (by decide +kernel) rfl
theorem wi_376_10 : ri (rt_P sc fm) 376 10 (.invokevirtual 462) (13) := ri_of (by decide +kernel) rfl
theorem wi_376_13 : ri (rt_P sc fm) 376 13 (.ifCond .ge 19) (16) := ri_of (by decide +kernel) rfl
theorem wi_376_16 : ri (rt_P sc fm) 376 16 (.aload_n 0) (17) := ri_of (by decide +kernel) rfl
theorem wi_376_17 : ri (rt_P sc fm) 376 17 (.lload_n 1) (18) := ri_of (by decide +kernel) rfl
theorem wi_376_18 : ri (rt_P sc fm) 376 18 (.invokevirtual 465) (21) := ri_of (by decide +kernel) rfl
theorem wi_376_2 : ri (rt_P sc fm) 376 2 (.invokevirtual 459) (5) := ri_of (by decide +kernel) rfl
theorem wi_376_21 : ri (rt_P sc fm) 376 21 (.ifCond .ge 11) (24) := ri_of (by decide +kernel) rfl
theorem wi_376_24 : ri (rt_P sc fm) 376 24 (.aload_n 0) (25) := ri_of (by decide +kernel) rfl
theorem wi_376_25 : ri (rt_P sc fm) 376 25 (.lload_n 1) (26) := ri_of (by decide +kernel) rfl
theorem wi_376_26 : ri (rt_P sc fm) 376 26 (.invokevirtual 468) (29) := ri_of (by decide +kernel) rfl
theorem wi_376_29 : ri (rt_P sc fm) 376 29 (.ifCond .lt 7) (32) := ri_of (by decide +kernel) rfl
theorem wi_376_32 : ri (rt_P sc fm) 376 32 (.iconst 1) (33) := ri_of (by decide +kernel) rfl
theorem wi_376_33 : ri (rt_P sc fm) 376 33 (.goto 4) (36) := ri_of (by decide +kernel) rfl
theorem wi_376_36 : ri (rt_P sc fm) 376 36 (.iconst 0) (37) := ri_of (by decide +kernel) rfl
theorem wi_376_37 : ri (rt_P sc fm) 376 37 (.ireturn) (38) := ri_of (by decide +kernel) rfl
theorem wi_376_5 : ri (rt_P sc fm) 376 5 (.ifCond .ge 27) (8) := ri_of (by decide +kernel) rfl
theorem wi_376_8 : ri (rt_P sc fm) 376 8 (.aload_n 0) (9) := ri_of (by decide +kernel) rfl
theorem wi_376_9 : ri (rt_P sc fm) 376 9 (.lload_n 1) (10) := ri_of (by decide +kernel) rfl
theorem wm_372 : rx_ml (rt_P sc fm) 372 = 4 := (by decide +kernel : rt_ml 372 = 4)
theorem wm_373 : rx_ml (rt_P sc fm) 373 = 4 := (by decide +kernel : rt_ml 373 = 4)
theorem wm_374 : rx_ml (rt_P sc fm) 374 = 4 := (by decide +kernel : rt_ml 374 = 4)
theorem wm_375 : rx_ml (rt_P sc fm) 375 = 4 := (by decide +kernel : rt_ml 375 = 4)
theorem wr_376 : rx_rt (rt_P sc fm) 376 = (some FieldType.boolean) := (by decide +kernel : rt_rt 376 = (some FieldType.boolean))
/-- MarkHouseModel.isTaken(J)Z -/
def d_376 (n : Nat) (a1 : Int64) (c : cS) : Option (Int32) :=
  Option.bind (d_372 n a1 c) (fun v1 =>
  jn (fun p2 : Int32 =>
    if nb p2 then
    some p2
    else none)
  (fun j37 =>
  jn (fun p4 : Unit =>
    j37 1)
  (fun j32 =>
  if 0 ≤ v1 then
    j32 ()
  else
    Option.bind (d_373 n a1 c) (fun v5 =>
    if 0 ≤ v5 then
      j32 ()
    else
      Option.bind (d_374 n a1 c) (fun v6 =>
      if 0 ≤ v6 then
        j32 ()
      else
        Option.bind (d_375 n a1 c) (fun v7 =>
        if v7 < 0 then
          j37 0
        else
          j32 ()))))))
set_option maxRecDepth 100000 in
set_option maxHeartbeats 4000000 in
theorem sp_376 {F Lo n : Nat} {a1 : Int64} {c y : cS} {w : cW} {K : Int32 → Prop} {Q : ((Option Value) ⊕ String) → List va_E → Prop} (hw : rOK fm w) (hF : 1 ≤ F) (hLo : 23 ≤ Lo)  (h : wp (d_376 n a1 c) K) (hQ : ∀ r, K r → Q (.inl (some (.int r))) (hq false c y w)) : rs (rt_P sc fm) 376 F Lo 0 [(0, .ref 174), (1, .long a1)] [] (hq false c y w) Q := by
  unfold d_376 at h
  obtain ⟨lv, elv⟩ : ∃ lv : rx_L, lv = [(0, .ref 174), (1, .long a1)] := ⟨_, rfl⟩
  rw [← elv]
  have l0 : rx_ld lv 0 = some (.ref 174) := by rw [elv]; rfl
  have l1 : rx_ld lv 1 = some (.long a1) := by rw [elv]; rfl
  refine rs_aldn wi_376_0 l0 ?_
  refine rs_lldn wi_376_1 l1 ?_
  refine rs_V wi_376_2 wc_376_459 rfl (dq_isa tf_174_0 wa_15_372) (Nat.le_trans (by decide) hF) (ml_le wm_372 (Nat.le_trans (by decide) hLo)) rfl (sp_372 hw (Nat.le_trans (by decide : 0 ≤ 1 - 1) (Nat.sub_le_sub_right hF 1)) (ml_sub wm_372 (Nat.le_trans (by decide : 0 ≤ 23 - 23) (Nat.sub_le_sub_right hLo 23))) (wp_bind h) (fun v1 h => rs_back1 ?_))
  refine wp_jn (B := fun p2 : Int32 => ∀ lv, rs (rt_P sc fm) 376 F Lo 37 lv [.int p2] (hq false c y w) Q) h (fun p2 h lv => ?_) (fun j37 hj37 h => ?_)
  ·
    obtain ⟨g3, h⟩ := wp_gd h
    exact rs_iret wi_376_37 wr_376 (nb_n g3) (hQ p2 h)
  refine wp_jn (B := fun p4 : Unit => ∀ lv, rs (rt_P sc fm) 376 F Lo 32 lv [] (hq false c y w) Q) h (fun p4 h lv => ?_) (fun j32 hj32 h => ?_)
  ·
    refine rs_pure wi_376_32 rfl ?_
    refine rs_topi (v := 1) (by decide) ?_
    refine rs_goto (tg := 37) wi_376_33 ⟨by decide, by decide⟩ ?_
    exact hj37 _ h _
  refine rs_ifge (tg := 32) wi_376_5 ⟨by decide, by decide⟩ (fun q => ?_) (fun q => ?_)
  ·
    have h := wp_pos h q
    exact hj32 _ h _
  ·
    have h := wp_neg h q
    refine rs_aldn wi_376_8 l0 ?_
    refine rs_lldn wi_376_9 l1 ?_
    refine rs_V wi_376_10 wc_376_462 rfl (dq_isa tf_174_0 wa_15_373) (Nat.le_trans (by decide) hF) (ml_le wm_373 (Nat.le_trans (by decide) hLo)) rfl (sp_373 hw (Nat.le_trans (by decide : 0 ≤ 1 - 1) (Nat.sub_le_sub_right hF 1)) (ml_sub wm_373 (Nat.le_trans (by decide : 0 ≤ 23 - 23) (Nat.sub_le_sub_right hLo 23))) (wp_bind h) (fun v5 h => rs_back1 ?_))
    refine rs_ifge (tg := 32) wi_376_13 ⟨by decide, by decide⟩ (fun q => ?_) (fun q => ?_)
    ·
      have h := wp_pos h q
      exact hj32 _ h _
    ·
      have h := wp_neg h q
      refine rs_aldn wi_376_16 l0 ?_
      refine rs_lldn wi_376_17 l1 ?_
      refine rs_V wi_376_18 wc_376_465 rfl (dq_isa tf_174_0 wa_15_374) (Nat.le_trans (by decide) hF) (ml_le wm_374 (Nat.le_trans (by decide) hLo)) rfl (sp_374 hw (Nat.le_trans (by decide : 0 ≤ 1 - 1) (Nat.sub_le_sub_right hF 1)) (ml_sub wm_374 (Nat.le_trans (by decide : 0 ≤ 23 - 23) (Nat.sub_le_sub_right hLo 23))) (wp_bind h) (fun v6 h => rs_back1 ?_))
      refine rs_ifge (tg := 32) wi_376_21 ⟨by decide, by decide⟩ (fun q => ?_) (fun q => ?_)
      ·
        have h := wp_pos h q
        exact hj32 _ h _
      ·
        have h := wp_neg h q
        refine rs_aldn wi_376_24 l0 ?_
        refine rs_lldn wi_376_25 l1 ?_
        refine rs_V wi_376_26 wc_376_468 rfl (dq_isa tf_174_0 wa_15_375) (Nat.le_trans (by decide) hF) (ml_le wm_375 (Nat.le_trans (by decide) hLo)) rfl (sp_375 hw (Nat.le_trans (by decide : 0 ≤ 1 - 1) (Nat.sub_le_sub_right hF 1)) (ml_sub wm_375 (Nat.le_trans (by decide : 0 ≤ 23 - 23) (Nat.sub_le_sub_right hLo 23))) (wp_bind h) (fun v7 h => rs_back1 ?_))
        refine rs_iflt (tg := 36) wi_376_29 ⟨by decide, by decide⟩ (fun q => ?_) (fun q => ?_)
        ·
          have h := wp_pos h q
          refine rs_pure wi_376_36 rfl ?_
          refine rs_topi (v := 0) (by decide) ?_
          exact hj37 _ h _
        ·
          have h := wp_neg h q
          exact hj32 _ h _
theorem wa_15_376 : rz_cn 15 (rx_yn (rt_P sc fm) 376).cls = true := (by decide +kernel : rz_cn 15 (rt_yn 376).cls = true)
theorem wa_15_381 : rz_cn 15 (rx_yn (rt_P sc fm) 381).cls = true := (by decide +kernel : rz_cn 15 (rt_yn 381).cls = true)
theorem wc_383_432 : rx_ct (rt_P sc fm) 383 432 = some (0, 97, 2) := (by decide +kernel : rt_ct 383 432 = some (0, 97, 2))
theorem wc_383_505 : rx_ct (rt_P sc fm) 383 505 = some (0, 381, 0) := (by decide +kernel : rt_ct 383 505 = some (0, 381, 0))
theorem wc_383_509 : rx_ct (rt_P sc fm) 383 509 = some (0, 376, 1) := (by decide +kernel : rt_ct 383 509 = some (0, 376, 1))
theorem wf_383_409 : rx_ft (rt_P sc fm) 383 409 = some (15, 13) := (by decide +kernel : rt_ft 383 409 = some (15, 13))
theorem wf_383_471 : rx_ft (rt_P sc fm) 383 471 = some (15, 67) := (by decide +kernel : rt_ft 383 471 = some (15, 67))
theorem wf_383_87 : rx_ft (rt_P sc fm) 383 87 = some (15, 9) := (by decide +kernel : rt_ft 383 87 = some (15, 9))
theorem wi_383_0 : ri (rt_P sc fm) 383 0 (.aload_n 0) (1) := ri_of (by decide +kernel) rfl
theorem wi_383_1 : ri (rt_P sc fm) 383 1 (.getfield 471) (4) := ri_of (by decide +kernel) rfl
theorem wi_383_11 : ri (rt_P sc fm) 383 11 (.aload_n 0) (12) := ri_of (by decide +kernel) rfl
theorem wi_383_12 : ri (rt_P sc fm) 383 12 (.getfield 409) (15) := ri_of (by decide +kernel) rfl
theorem wi_383_15 : ri (rt_P sc fm) 383 15 (.ifCond .eq 5) (18) := ri_of (by decide +kernel) rfl
theorem wi_383_18 : ri (rt_P sc fm) 383 18 (.lconst 0) (19) := ri_of (by decide +kernel) rfl
theorem wi_383_19 : ri (rt_P sc fm) 383 19 (.lreturn) (20) := ri_of (by decide +kernel) rfl
theorem wi_383_20 : ri (rt_P sc fm) 383 20 (.aload_n 0) (21) := ri_of (by decide +kernel) rfl
theorem wi_383_21 : ri (rt_P sc fm) 383 21 (.lload 4) (23) := ri_of (by decide +kernel) rfl
theorem wi_383_23 : ri (rt_P sc fm) 383 23 (.invokevirtual 509) (26) := ri_of (by decide +kernel) rfl
theorem wi_383_26 : ri (rt_P sc fm) 383 26 (.ifCond .eq 14) (29) := ri_of (by decide +kernel) rfl
theorem wi_383_29 : ri (rt_P sc fm) 383 29 (.aload_n 0) (30) := ri_of (by decide +kernel) rfl
theorem wi_383_30 : ri (rt_P sc fm) 383 30 (.iconst 3) (31) := ri_of (by decide +kernel) rfl
theorem wi_383_31 : ri (rt_P sc fm) 383 31 (.aload_n 0) (32) := ri_of (by decide +kernel) rfl
theorem wi_383_32 : ri (rt_P sc fm) 383 32 (.getfield 87) (35) := ri_of (by decide +kernel) rfl
theorem wi_383_35 : ri (rt_P sc fm) 383 35 (.iload_n 3) (36) := ri_of (by decide +kernel) rfl
theorem wi_383_36 : ri (rt_P sc fm) 383 36 (.iaload) (37) := ri_of (by decide +kernel) rfl
theorem wi_383_37 : ri (rt_P sc fm) 383 37 (.invokevirtual 432) (40) := ri_of (by decide +kernel) rfl
theorem wi_383_4 : ri (rt_P sc fm) 383 4 (.istore_n 3) (5) := ri_of (by decide +kernel) rfl
theorem wi_383_40 : ri (rt_P sc fm) 383 40 (.iload_n 1) (41) := ri_of (by decide +kernel) rfl
theorem wi_383_41 : ri (rt_P sc fm) 383 41 (.iload_n 2) (42) := ri_of (by decide +kernel) rfl
theorem wi_383_42 : ri (rt_P sc fm) 383 42 (.if_icmp .ne 15) (45) := ri_of (by decide +kernel) rfl
theorem wi_383_45 : ri (rt_P sc fm) 383 45 (.aload_n 0) (46) := ri_of (by decide +kernel) rfl
theorem wi_383_46 : ri (rt_P sc fm) 383 46 (.bipush 6) (48) := ri_of (by decide +kernel) rfl
theorem wi_383_48 : ri (rt_P sc fm) 383 48 (.aload_n 0) (49) := ri_of (by decide +kernel) rfl
theorem wi_383_49 : ri (rt_P sc fm) 383 49 (.getfield 87) (52) := ri_of (by decide +kernel) rfl
theorem wi_383_5 : ri (rt_P sc fm) 383 5 (.aload_n 0) (6) := ri_of (by decide +kernel) rfl
theorem wi_383_52 : ri (rt_P sc fm) 383 52 (.iload_n 3) (53) := ri_of (by decide +kernel) rfl
theorem wi_383_53 : ri (rt_P sc fm) 383 53 (.iaload) (54) := ri_of (by decide +kernel) rfl
theorem wi_383_54 : ri (rt_P sc fm) 383 54 (.invokevirtual 432) (57) := ri_of (by decide +kernel) rfl
theorem wi_383_57 : ri (rt_P sc fm) 383 57 (.lload 4) (59) := ri_of (by decide +kernel) rfl
theorem wi_383_59 : ri (rt_P sc fm) 383 59 (.lreturn) (60) := ri_of (by decide +kernel) rfl
theorem wi_383_6 : ri (rt_P sc fm) 383 6 (.invokevirtual 505) (9) := ri_of (by decide +kernel) rfl
theorem wi_383_9 : ri (rt_P sc fm) 383 9 (.lstore 4) (11) := ri_of (by decide +kernel) rfl
theorem wm_376 : rx_ml (rt_P sc fm) 376 = 3 := (by decide +kernel : rt_ml 376 = 3)
theorem wm_381 : rx_ml (rt_P sc fm) 381 = 1 := (by decide +kernel : rt_ml 381 = 1)
theorem wr_383 : rx_rt (rt_P sc fm) 383 = (some FieldType.long) := (by decide +kernel : rt_rt 383 = (some FieldType.long))
/-- MarkHouseModel.newName(II)J -/
def d_383 (n : Nat) (a1 : Int32) (a2 : Int32) (c : cS) : Option (Int64 × cS) :=
  lt ((c.1 174 67) : Int32) (fun v2 =>
  Option.bind (d_381 n c) (fun r4 =>
  if (r4.2.1 174 13) = 0 then
    Option.bind (d_376 n r4.1 r4.2) (fun v6 =>
    jn (fun p7 : cS =>
      jn (fun p8 : cS =>
        some (r4.1, p8))
      (fun j57 =>
      if a1 = a2 then
        if ib v2 4001 then
        Option.bind (d_97 n 6 (p7.1 179 (ix v2)) p7) (fun r10 =>
        j57 r10)
        else none
      else
        j57 p7))
    (fun j40 =>
    if v6 = 0 then
      j40 r4.2
    else
      if ib v2 4001 then
      Option.bind (d_97 n 3 (r4.2.1 179 (ix v2)) r4.2) (fun r12 =>
      j40 r12)
      else none))
  else
    some (0, r4.2)))
set_option maxRecDepth 100000 in
set_option maxHeartbeats 4000000 in
theorem sp_383 {F Lo n : Nat} {a1 : Int32} {a2 : Int32} {c y : cS} {w : cW} {K : Int64 × cS → Prop} {Q : ((Option Value) ⊕ String) → List va_E → Prop} (hw : rOK fm w) (hF : 3 ≤ F) (hLo : 62 ≤ Lo)  (h : wp (d_383 n a1 a2 c) K) (hQ : ∀ r, K r → Q (.inl (some (.long r.1))) (hq false r.2 y w)) : rs (rt_P sc fm) 383 F Lo 0 [(0, .ref 174), (1, .int a1), (2, .int a2)] [] (hq false c y w) Q := by
  unfold d_383 at h
  obtain ⟨lv, elv⟩ : ∃ lv : rx_L, lv = [(0, .ref 174), (1, .int a1), (2, .int a2)] := ⟨_, rfl⟩
  rw [← elv]
  have l0 : rx_ld lv 0 = some (.ref 174) := by rw [elv]; rfl
  have l1 : rx_ld lv 1 = some (.int a1) := by rw [elv]; rfl
  have l2 : rx_ld lv 2 = some (.int a2) := by rw [elv]; rfl
  refine rs_aldn wi_383_0 l0 ?_
  refine dq_gi wi_383_1 wf_383_471 tf_174_67 ?_
  obtain ⟨v2, e3, h⟩ := wp_lt h
  refine rs_topi e3 ?_
  refine dl_istn wi_383_4 rfl (fun lv l3 t1 => ?_)
  have l0 := t1 _ _ (by decide) (Or.inl rfl) l0
  have l1 := t1 _ _ (by decide) (Or.inl rfl) l1
  have l2 := t1 _ _ (by decide) (Or.inl rfl) l2
  refine rs_aldn wi_383_5 l0 ?_
  refine rs_V wi_383_6 wc_383_505 rfl (dq_isa tf_174_0 wa_15_381) (Nat.le_trans (by decide) hF) (ml_le wm_381 (Nat.le_trans (by decide) hLo)) rfl (sp_381 hw (Nat.le_trans (by decide : 2 ≤ 3 - 1) (Nat.sub_le_sub_right hF 1)) (ml_sub wm_381 (Nat.le_trans (by decide : 42 ≤ 62 - 20) (Nat.sub_le_sub_right hLo 20))) (wp_bind h) (fun r4 h => rs_back1 ?_))
  refine dl_lst wi_383_9 rfl (fun lv l4 t5 => ?_)
  have l0 := t5 _ _ (by decide) (by decide) (Or.inl rfl) l0
  have l1 := t5 _ _ (by decide) (by decide) (Or.inl rfl) l1
  have l2 := t5 _ _ (by decide) (by decide) (Or.inl rfl) l2
  have l3 := t5 _ _ (by decide) (by decide) (Or.inl rfl) l3
  refine rs_aldn wi_383_11 l0 ?_
  refine dq_gi wi_383_12 wf_383_409 tf_174_13 ?_
  refine rs_ifeq (tg := 20) wi_383_15 ⟨by decide, by decide⟩ (fun q => ?_) (fun q => ?_)
  ·
    have h := wp_pos h q
    refine rs_aldn wi_383_20 l0 ?_
    refine rs_lld wi_383_21 l4 ?_
    refine rs_V wi_383_23 wc_383_509 rfl (dq_isa tf_174_0 wa_15_376) (Nat.le_trans (by decide) hF) (ml_le wm_376 (Nat.le_trans (by decide) hLo)) rfl (sp_376 hw (Nat.le_trans (by decide : 1 ≤ 3 - 1) (Nat.sub_le_sub_right hF 1)) (ml_sub wm_376 (Nat.le_trans (by decide : 23 ≤ 62 - 22) (Nat.sub_le_sub_right hLo 22))) (wp_bind h) (fun v6 h => rs_back1 ?_))
    refine wp_jn (B := fun p7 : cS => ∀ lv, rx_ld lv 0 = some (.ref 174) → rx_ld lv 1 = some (.int a1) → rx_ld lv 2 = some (.int a2) → rx_ld lv 3 = some (.int v2) → rx_ld lv 4 = some (.long r4.1) → rs (rt_P sc fm) 383 F Lo 40 lv [] (hq false p7 y w) Q) h (fun p7 h lv l0 l1 l2 l3 l4 => ?_) (fun j40 hj40 h => ?_)
    ·
      refine rs_ildn wi_383_40 l1 ?_
      refine rs_ildn wi_383_41 l2 ?_
      refine wp_jn (B := fun p8 : cS => ∀ lv, rx_ld lv 4 = some (.long r4.1) → rs (rt_P sc fm) 383 F Lo 57 lv [] (hq false p8 y w) Q) h (fun p8 h lv l4 => ?_) (fun j57 hj57 h => ?_)
      ·
        refine rs_lld wi_383_57 l4 ?_
        exact rs_lret wi_383_59 wr_383 (hQ (r4.1, p8) h)
      refine rs_icne (tg := 57) wi_383_42 ⟨by decide, by decide⟩ (fun q => ?_) (fun q => ?_)
      ·
        have h := wp_neg h q
        exact hj57 _ h _ l4
      ·
        have h := wp_pos h q
        refine rs_aldn wi_383_45 l0 ?_
        refine rs_pure wi_383_46 rfl ?_
        refine rs_topi (v := 6) (by decide) ?_
        refine rs_aldn wi_383_48 l0 ?_
        refine dq_gr wi_383_49 wf_383_87 tf_174_9 ?_
        refine rs_ildn wi_383_52 l3 ?_
        obtain ⟨g9, h⟩ := wp_gd h
        refine dq_iald wi_383_53 t_179 g9 ?_
        refine rs_V wi_383_54 wc_383_432 rfl (dq_isa tf_174_0 wa_15_97) (Nat.le_trans (by decide) hF) (ml_le wm_97 (Nat.le_trans (by decide) hLo)) rfl (sp_97 hw (Nat.le_trans (by decide : 0 ≤ 3 - 1) (Nat.sub_le_sub_right hF 1)) (ml_sub wm_97 (Nat.le_trans (by decide : 0 ≤ 62 - 22) (Nat.sub_le_sub_right hLo 22))) (wp_bind h) (fun r10 h => rs_back0 ?_))
        exact hj57 _ h _ l4
    refine rs_ifeq (tg := 40) wi_383_26 ⟨by decide, by decide⟩ (fun q => ?_) (fun q => ?_)
    ·
      have h := wp_pos h q
      exact hj40 _ h _ l0 l1 l2 l3 l4
    ·
      have h := wp_neg h q
      refine rs_aldn wi_383_29 l0 ?_
      refine rs_pure wi_383_30 rfl ?_
      refine rs_topi (v := 3) (by decide) ?_
      refine rs_aldn wi_383_31 l0 ?_
      refine dq_gr wi_383_32 wf_383_87 tf_174_9 ?_
      refine rs_ildn wi_383_35 l3 ?_
      obtain ⟨g11, h⟩ := wp_gd h
      refine dq_iald wi_383_36 t_179 g11 ?_
      refine rs_V wi_383_37 wc_383_432 rfl (dq_isa tf_174_0 wa_15_97) (Nat.le_trans (by decide) hF) (ml_le wm_97 (Nat.le_trans (by decide) hLo)) rfl (sp_97 hw (Nat.le_trans (by decide : 0 ≤ 3 - 1) (Nat.sub_le_sub_right hF 1)) (ml_sub wm_97 (Nat.le_trans (by decide : 0 ≤ 62 - 22) (Nat.sub_le_sub_right hLo 22))) (wp_bind h) (fun r12 h => rs_back0 ?_))
      exact hj40 _ h _ l0 l1 l2 l3 l4
  ·
    have h := wp_neg h q
    refine rs_pure wi_383_18 rfl ?_
    refine rs_topl (v := 0) (by decide) ?_
    exact rs_lret wi_383_19 wr_383 (hQ (0, r4.2) h)
theorem wa_15_101 : rz_cn 15 (rx_yn (rt_P sc fm) 101).cls = true := (by decide +kernel : rz_cn 15 (rt_yn 101).cls = true)
theorem wc_380_477 : rx_ct (rt_P sc fm) 380 477 = some (0, 101, 1) := (by decide +kernel : rt_ct 380 477 = some (0, 101, 1))
theorem wc_380_480 : rx_ct (rt_P sc fm) 380 480 = some (0, 103, 0) := (by decide +kernel : rt_ct 380 480 = some (0, 103, 0))
theorem wf_380_409 : rx_ft (rt_P sc fm) 380 409 = some (15, 13) := (by decide +kernel : rt_ft 380 409 = some (15, 13))
theorem wf_380_471 : rx_ft (rt_P sc fm) 380 471 = some (15, 67) := (by decide +kernel : rt_ft 380 471 = some (15, 67))
theorem wi_380_0 : ri (rt_P sc fm) 380 0 (.aload_n 0) (1) := ri_of (by decide +kernel) rfl
theorem wi_380_1 : ri (rt_P sc fm) 380 1 (.getfield 409) (4) := ri_of (by decide +kernel) rfl
theorem wi_380_10 : ri (rt_P sc fm) 380 10 (.invokevirtual 477) (13) := ri_of (by decide +kernel) rfl
theorem wi_380_13 : ri (rt_P sc fm) 380 13 (.ifCond .eq 16) (16) := ri_of (by decide +kernel) rfl
theorem wi_380_16 : ri (rt_P sc fm) 380 16 (.aload_n 0) (17) := ri_of (by decide +kernel) rfl
theorem wi_380_17 : ri (rt_P sc fm) 380 17 (.dup) (18) := ri_of (by decide +kernel) rfl
theorem wi_380_18 : ri (rt_P sc fm) 380 18 (.getfield 471) (21) := ri_of (by decide +kernel) rfl
theorem wi_380_21 : ri (rt_P sc fm) 380 21 (.iconst 1) (22) := ri_of (by decide +kernel) rfl
theorem wi_380_22 : ri (rt_P sc fm) 380 22 (.iadd) (23) := ri_of (by decide +kernel) rfl
theorem wi_380_23 : ri (rt_P sc fm) 380 23 (.putfield 471) (26) := ri_of (by decide +kernel) rfl
theorem wi_380_26 : ri (rt_P sc fm) 380 26 (.goto 7) (29) := ri_of (by decide +kernel) rfl
theorem wi_380_29 : ri (rt_P sc fm) 380 29 (.aload_n 0) (30) := ri_of (by decide +kernel) rfl
theorem wi_380_30 : ri (rt_P sc fm) 380 30 (.invokevirtual 480) (33) := ri_of (by decide +kernel) rfl
theorem wi_380_33 : ri (rt_P sc fm) 380 33 (.return_) (34) := ri_of (by decide +kernel) rfl
theorem wi_380_4 : ri (rt_P sc fm) 380 4 (.ifCond .eq 4) (7) := ri_of (by decide +kernel) rfl
theorem wi_380_7 : ri (rt_P sc fm) 380 7 (.return_) (8) := ri_of (by decide +kernel) rfl
theorem wi_380_8 : ri (rt_P sc fm) 380 8 (.aload_n 0) (9) := ri_of (by decide +kernel) rfl
theorem wi_380_9 : ri (rt_P sc fm) 380 9 (.iload_n 1) (10) := ri_of (by decide +kernel) rfl
theorem wm_101 : rx_ml (rt_P sc fm) 101 = 2 := (by decide +kernel : rt_ml 101 = 2)
theorem wp_380_471 : rx_pt (rt_P sc fm) 380 471 = some (15, 67, .int) := (by decide +kernel : rt_pt 380 471 = some (15, 67, .int))
theorem wr_380 : rx_rt (rt_P sc fm) 380 = none := (by decide +kernel : rt_rt 380 = none)
/-- MarkHouseModel.wantSign(I)V -/
def d_380 (n : Nat) (a1 : Int32) (c : cS) : Option (cS) :=
  if (c.1 174 13) = 0 then
    Option.bind (d_101 n a1 c) (fun v1 =>
    jn (fun p2 : cS =>
      some p2)
    (fun j33 =>
    if v1 = 0 then
      Option.bind (d_103 n c) (fun r3 =>
      j33 r3)
    else
      lt (pI c 174 67 ((c.1 174 67) + 1)) (fun c4 =>
      j33 c4)))
  else
    some c
set_option maxRecDepth 100000 in
set_option maxHeartbeats 4000000 in
theorem sp_380 {F Lo n : Nat} {a1 : Int32} {c y : cS} {w : cW} {K : cS → Prop} {Q : ((Option Value) ⊕ String) → List va_E → Prop} (hw : rOK fm w) (hF : 2 ≤ F) (hLo : 42 ≤ Lo)  (h : wp (d_380 n a1 c) K) (hQ : ∀ r, K r → Q (.inl none) (hq false r y w)) : rs (rt_P sc fm) 380 F Lo 0 [(0, .ref 174), (1, .int a1)] [] (hq false c y w) Q := by
  unfold d_380 at h
  obtain ⟨lv, elv⟩ : ∃ lv : rx_L, lv = [(0, .ref 174), (1, .int a1)] := ⟨_, rfl⟩
  rw [← elv]
  have l0 : rx_ld lv 0 = some (.ref 174) := by rw [elv]; rfl
  have l1 : rx_ld lv 1 = some (.int a1) := by rw [elv]; rfl
  refine rs_aldn wi_380_0 l0 ?_
  refine dq_gi wi_380_1 wf_380_409 tf_174_13 ?_
  refine rs_ifeq (tg := 8) wi_380_4 ⟨by decide, by decide⟩ (fun q => ?_) (fun q => ?_)
  ·
    have h := wp_pos h q
    refine rs_aldn wi_380_8 l0 ?_
    refine rs_ildn wi_380_9 l1 ?_
    refine rs_V wi_380_10 wc_380_477 rfl (dq_isa tf_174_0 wa_15_101) (Nat.le_trans (by decide) hF) (ml_le wm_101 (Nat.le_trans (by decide) hLo)) rfl (sp_101 hw (Nat.le_trans (by decide : 0 ≤ 2 - 1) (Nat.sub_le_sub_right hF 1)) (ml_sub wm_101 (Nat.le_trans (by decide : 0 ≤ 42 - 21) (Nat.sub_le_sub_right hLo 21))) (wp_bind h) (fun v1 h => rs_back1 ?_))
    refine wp_jn (B := fun p2 : cS => ∀ lv, rs (rt_P sc fm) 380 F Lo 33 lv [] (hq false p2 y w) Q) h (fun p2 h lv => ?_) (fun j33 hj33 h => ?_)
    ·
      exact rs_vret wi_380_33 wr_380 (hQ p2 h)
    refine rs_ifeq (tg := 29) wi_380_13 ⟨by decide, by decide⟩ (fun q => ?_) (fun q => ?_)
    ·
      have h := wp_pos h q
      refine rs_aldn wi_380_29 l0 ?_
      refine rs_V wi_380_30 wc_380_480 rfl (dq_isa tf_174_0 wa_15_103) (Nat.le_trans (by decide) hF) (ml_le wm_103 (Nat.le_trans (by decide) hLo)) rfl (sp_103 hw (Nat.le_trans (by decide : 1 ≤ 2 - 1) (Nat.sub_le_sub_right hF 1)) (ml_sub wm_103 (Nat.le_trans (by decide : 22 ≤ 42 - 20) (Nat.sub_le_sub_right hLo 20))) (wp_bind h) (fun r3 h => rs_back0 ?_))
      exact hj33 _ h _
    ·
      have h := wp_neg h q
      refine rs_aldn wi_380_16 l0 ?_
      refine rs_pure wi_380_17 rfl ?_
      refine dq_gi wi_380_18 wf_380_471 tf_174_67 ?_
      refine rs_pure wi_380_21 rfl ?_
      refine rs_topi (v := 1) (by decide) ?_
      refine rs_pure wi_380_22 rfl ?_
      obtain ⟨c4, e5, h⟩ := wp_lt h
      refine dq_pi wi_380_23 wp_380_471 tf_174_67 rfl rfl e5 ?_
      refine rs_goto (tg := 33) wi_380_26 ⟨by decide, by decide⟩ ?_
      exact hj33 _ h _
  ·
    have h := wp_neg h q
    exact rs_vret wi_380_7 wr_380 (hQ c h)
theorem wi_385_0 : ri (rt_P sc fm) 385 0 (.bipush 12) (2) := ri_of (by decide +kernel) rfl
theorem wi_385_10 : ri (rt_P sc fm) 385 10 (.iadd) (11) := ri_of (by decide +kernel) rfl
theorem wi_385_11 : ri (rt_P sc fm) 385 11 (.ireturn) (12) := ri_of (by decide +kernel) rfl
theorem wi_385_2 : ri (rt_P sc fm) 385 2 (.iload_n 1) (3) := ri_of (by decide +kernel) rfl
theorem wi_385_3 : ri (rt_P sc fm) 385 3 (.imul) (4) := ri_of (by decide +kernel) rfl
theorem wi_385_4 : ri (rt_P sc fm) 385 4 (.iload_n 2) (5) := ri_of (by decide +kernel) rfl
theorem wi_385_5 : ri (rt_P sc fm) 385 5 (.iadd) (6) := ri_of (by decide +kernel) rfl
theorem wi_385_6 : ri (rt_P sc fm) 385 6 (.bipush 12) (8) := ri_of (by decide +kernel) rfl
theorem wi_385_8 : ri (rt_P sc fm) 385 8 (.imul) (9) := ri_of (by decide +kernel) rfl
theorem wi_385_9 : ri (rt_P sc fm) 385 9 (.iload_n 3) (10) := ri_of (by decide +kernel) rfl
theorem wr_385 : rx_rt (rt_P sc fm) 385 = (some FieldType.int) := (by decide +kernel : rt_rt 385 = (some FieldType.int))
/-- MarkHouseModel.cell(III)I -/
def d_385 (n : Nat) (a1 : Int32) (a2 : Int32) (a3 : Int32) : Option (Int32) :=
  some ((((12 * a1) + a2) * 12) + a3)
set_option maxRecDepth 100000 in
set_option maxHeartbeats 4000000 in
theorem sp_385 {F Lo n : Nat} {a1 : Int32} {a2 : Int32} {a3 : Int32} {L : List va_E} {K : Int32 → Prop} {Q : ((Option Value) ⊕ String) → List va_E → Prop} (hF : 0 ≤ F) (hLo : 0 ≤ Lo)  (h : wp (d_385 n a1 a2 a3) K) (hQ : ∀ r, K r → Q (.inl (some (.int r))) L) : rs (rt_P sc fm) 385 F Lo 0 [(0, .ref 174), (1, .int a1), (2, .int a2), (3, .int a3)] [] L Q := by
  unfold d_385 at h
  obtain ⟨lv, elv⟩ : ∃ lv : rx_L, lv = [(0, .ref 174), (1, .int a1), (2, .int a2), (3, .int a3)] := ⟨_, rfl⟩
  rw [← elv]
  have l1 : rx_ld lv 1 = some (.int a1) := by rw [elv]; rfl
  have l2 : rx_ld lv 2 = some (.int a2) := by rw [elv]; rfl
  have l3 : rx_ld lv 3 = some (.int a3) := by rw [elv]; rfl
  refine rs_pure wi_385_0 rfl ?_
  refine rs_topi (v := 12) (by decide) ?_
  refine rs_ildn wi_385_2 l1 ?_
  refine rs_pure wi_385_3 rfl ?_
  refine rs_ildn wi_385_4 l2 ?_
  refine rs_pure wi_385_5 rfl ?_
  refine rs_pure wi_385_6 rfl ?_
  refine rs_topi (v := 12) (by decide) ?_
  refine rs_pure wi_385_8 rfl ?_
  refine rs_ildn wi_385_9 l3 ?_
  refine rs_pure wi_385_10 rfl ?_
  exact rs_iret wi_385_11 wr_385 rfl (hQ ((((12 * a1) + a2) * 12) + a3) h)
theorem t_182 : ta false 182 0 4 := ⟨rfl, by decide, by decide⟩
theorem t_183 : ta false 183 1 48 := ⟨rfl, by decide, by decide⟩
theorem tf_174_17 : fo false 174 15 17 (.ref 182) := ⟨_, rfl, rfl, by decide, by decide⟩
theorem tf_174_18 : fo false 174 15 18 (.ref 183) := ⟨_, rfl, rfl, by decide, by decide⟩
theorem wf_377_100 : rx_ft (rt_P sc fm) 377 100 = some (15, 18) := (by decide +kernel : rt_ft 377 100 = some (15, 18))
theorem wf_377_97 : rx_ft (rt_P sc fm) 377 97 = some (15, 17) := (by decide +kernel : rt_ft 377 97 = some (15, 17))
theorem wi_377_0 : ri (rt_P sc fm) 377 0 (.iconst 0) (1) := ri_of (by decide +kernel) rfl
theorem wi_377_1 : ri (rt_P sc fm) 377 1 (.istore 4) (3) := ri_of (by decide +kernel) rfl
theorem wi_377_10 : ri (rt_P sc fm) 377 10 (.iaload) (11) := ri_of (by decide +kernel) rfl
theorem wi_377_11 : ri (rt_P sc fm) 377 11 (.if_icmp .ge 29) (14) := ri_of (by decide +kernel) rfl
theorem wi_377_14 : ri (rt_P sc fm) 377 14 (.aload_n 0) (15) := ri_of (by decide +kernel) rfl
theorem wi_377_15 : ri (rt_P sc fm) 377 15 (.getfield 100) (18) := ri_of (by decide +kernel) rfl
theorem wi_377_18 : ri (rt_P sc fm) 377 18 (.bipush 12) (20) := ri_of (by decide +kernel) rfl
theorem wi_377_20 : ri (rt_P sc fm) 377 20 (.iload_n 1) (21) := ri_of (by decide +kernel) rfl
theorem wi_377_21 : ri (rt_P sc fm) 377 21 (.imul) (22) := ri_of (by decide +kernel) rfl
theorem wi_377_22 : ri (rt_P sc fm) 377 22 (.iload 4) (24) := ri_of (by decide +kernel) rfl
theorem wi_377_24 : ri (rt_P sc fm) 377 24 (.iadd) (25) := ri_of (by decide +kernel) rfl
theorem wi_377_25 : ri (rt_P sc fm) 377 25 (.laload) (26) := ri_of (by decide +kernel) rfl
theorem wi_377_26 : ri (rt_P sc fm) 377 26 (.lload_n 2) (27) := ri_of (by decide +kernel) rfl
theorem wi_377_27 : ri (rt_P sc fm) 377 27 (.lcmp) (28) := ri_of (by decide +kernel) rfl
theorem wi_377_28 : ri (rt_P sc fm) 377 28 (.ifCond .ne 6) (31) := ri_of (by decide +kernel) rfl
theorem wi_377_3 : ri (rt_P sc fm) 377 3 (.iload 4) (5) := ri_of (by decide +kernel) rfl
theorem wi_377_31 : ri (rt_P sc fm) 377 31 (.iload 4) (33) := ri_of (by decide +kernel) rfl
theorem wi_377_33 : ri (rt_P sc fm) 377 33 (.ireturn) (34) := ri_of (by decide +kernel) rfl
theorem wi_377_34 : ri (rt_P sc fm) 377 34 (.iinc 4 1) (37) := ri_of (by decide +kernel) rfl
theorem wi_377_37 : ri (rt_P sc fm) 377 37 (.goto (-34)) (40) := ri_of (by decide +kernel) rfl
theorem wi_377_40 : ri (rt_P sc fm) 377 40 (.iconst (-1)) (41) := ri_of (by decide +kernel) rfl
theorem wi_377_41 : ri (rt_P sc fm) 377 41 (.ireturn) (42) := ri_of (by decide +kernel) rfl
theorem wi_377_5 : ri (rt_P sc fm) 377 5 (.aload_n 0) (6) := ri_of (by decide +kernel) rfl
theorem wi_377_6 : ri (rt_P sc fm) 377 6 (.getfield 97) (9) := ri_of (by decide +kernel) rfl
theorem wi_377_9 : ri (rt_P sc fm) 377 9 (.iload_n 1) (10) := ri_of (by decide +kernel) rfl
theorem wr_377 : rx_rt (rt_P sc fm) 377 = (some FieldType.int) := (by decide +kernel : rt_rt 377 = (some FieldType.int))
/-- MarkHouseModel.elementOf(IJ)I -/
def d_377 (n : Nat) (a1 : Int32) (a2 : Int64) (c : cS) : Option (Int32) :=
  Option.bind (whl (R := (Unit) ⊕ (Int32)) (fun s2 : Int32 =>
    if ib a1 4 then
    if (c.1 182 (ix a1)) ≤ s2 then
      some (.inr (.inl ()))
    else
      if ib ((12 * a1) + s2) 48 then
      if (lg_cmp (c.2 183 (ix ((12 * a1) + s2))) a2) = 0 then
        some (.inr (.inr s2))
      else
        lt (s2 + 1 : Int32) (fun v6 =>
        some (.inl v6))
      else none
    else none) n 0)
  (Sum.elim (fun x8 : Unit =>
    some (-1))
  (fun x9 : Int32 =>
    some x9))
set_option maxRecDepth 100000 in
set_option maxHeartbeats 4000000 in
theorem sp_377 {F Lo n : Nat} {a1 : Int32} {a2 : Int64} {c y : cS} {w : cW} {K : Int32 → Prop} {Q : ((Option Value) ⊕ String) → List va_E → Prop} (hw : rOK fm w) (hF : 0 ≤ F) (hLo : 0 ≤ Lo)  (h : wp (d_377 n a1 a2 c) K) (hQ : ∀ r, K r → Q (.inl (some (.int r))) (hq false c y w)) : rs (rt_P sc fm) 377 F Lo 0 [(0, .ref 174), (1, .int a1), (2, .long a2)] [] (hq false c y w) Q := by
  unfold d_377 at h
  obtain ⟨lv, elv⟩ : ∃ lv : rx_L, lv = [(0, .ref 174), (1, .int a1), (2, .long a2)] := ⟨_, rfl⟩
  rw [← elv]
  have l0 : rx_ld lv 0 = some (.ref 174) := by rw [elv]; rfl
  have l1 : rx_ld lv 1 = some (.int a1) := by rw [elv]; rfl
  have l2 : rx_ld lv 2 = some (.long a2) := by rw [elv]; rfl
  refine rs_pure wi_377_0 rfl ?_
  refine rs_topi (v := 0) (by decide) ?_
  refine dl_ist wi_377_1 rfl (fun lv l4 t1 => ?_)
  have l0 := t1 _ _ (by decide) (Or.inl rfl) l0
  have l1 := t1 _ _ (by decide) (Or.inl rfl) l1
  have l2 := t1 _ _ (by decide) (Or.inr (by decide)) l2
  refine whl_ex (A := fun s2 : Int32 => ∀ lv, rx_ld lv 0 = some (.ref 174) → rx_ld lv 1 = some (.int a1) → rx_ld lv 2 = some (.long a2) → rx_ld lv 4 = some (.int s2) → rs (rt_P sc fm) 377 F Lo 3 lv [] (hq false c y w) Q) (B := (Sum.elim (fun x8 : Unit => ∀ lv, rs (rt_P sc fm) 377 F Lo 40 lv [] (hq false c y w) Q) (fun x9 : Int32 => ∀ lv, rx_ld lv 4 = some (.int x9) → rs (rt_P sc fm) 377 F Lo 31 lv [] (hq false c y w) Q))) ?_ ?_ _ _ (wp_bind h) _ l0 l1 l2 l4
  · intro s2 h lv l0 l1 l2 l4
    refine rs_ild wi_377_3 l4 ?_
    refine rs_aldn wi_377_5 l0 ?_
    refine dq_gr wi_377_6 wf_377_97 tf_174_17 ?_
    refine rs_ildn wi_377_9 l1 ?_
    obtain ⟨g3, h⟩ := wp_gd h
    refine dq_iald wi_377_10 t_182 g3 ?_
    refine rs_icge (tg := 40) wi_377_11 ⟨by decide, by decide⟩ (fun q => ?_) (fun q => ?_)
    ·
      have h := wp_pos h q
      exact h _
    ·
      have h := wp_neg h q
      refine rs_aldn wi_377_14 l0 ?_
      refine dq_gr wi_377_15 wf_377_100 tf_174_18 ?_
      refine rs_pure wi_377_18 rfl ?_
      refine rs_topi (v := 12) (by decide) ?_
      refine rs_ildn wi_377_20 l1 ?_
      refine rs_pure wi_377_21 rfl ?_
      refine rs_ild wi_377_22 l4 ?_
      refine rs_pure wi_377_24 rfl ?_
      obtain ⟨g4, h⟩ := wp_gd h
      refine dq_lald wi_377_25 t_183 g4 ?_
      refine rs_lldn wi_377_26 l2 ?_
      refine rs_pure wi_377_27 rfl ?_
      refine rs_ifne (tg := 34) wi_377_28 ⟨by decide, by decide⟩ (fun q => ?_) (fun q => ?_)
      ·
        have h := wp_neg h q
        obtain ⟨v6, e7, h⟩ := wp_lt h
        refine dl_inc wi_377_34 l4 rfl e7 (fun lv l4 t5 => ?_)
        have l0 := t5 _ _ (by decide) (Or.inl rfl) l0
        have l1 := t5 _ _ (by decide) (Or.inl rfl) l1
        have l2 := t5 _ _ (by decide) (Or.inr (by decide)) l2
        refine rs_goto (tg := 3) wi_377_37 ⟨by decide, by decide⟩ ?_
        exact h _ l0 l1 l2 l4
      ·
        have h := wp_pos h q
        exact h _ l4
  ·
    refine sum_all ?_ ?_
    ·
      intro x8 h lv
      have h := wp_inl h
      refine rs_pure wi_377_40 rfl ?_
      refine rs_topi (v := (-1)) (by decide) ?_
      exact rs_iret wi_377_41 wr_377 rfl (hQ (-1) h)
    ·
      intro x9 h lv l4
      have h := wp_inr h
      refine rs_ild wi_377_31 l4 ?_
      exact rs_iret wi_377_33 wr_377 rfl (hQ x9 h)
theorem wa_15_377 : rz_cn 15 (rx_yn (rt_P sc fm) 377).cls = true := (by decide +kernel : rz_cn 15 (rt_yn 377).cls = true)
theorem wc_384_432 : rx_ct (rt_P sc fm) 384 432 = some (0, 97, 2) := (by decide +kernel : rt_ct 384 432 = some (0, 97, 2))
theorem wc_384_505 : rx_ct (rt_P sc fm) 384 505 = some (0, 381, 0) := (by decide +kernel : rt_ct 384 505 = some (0, 381, 0))
theorem wc_384_513 : rx_ct (rt_P sc fm) 384 513 = some (0, 377, 2) := (by decide +kernel : rt_ct 384 513 = some (0, 377, 2))
theorem wf_384_100 : rx_ft (rt_P sc fm) 384 100 = some (15, 18) := (by decide +kernel : rt_ft 384 100 = some (15, 18))
theorem wf_384_409 : rx_ft (rt_P sc fm) 384 409 = some (15, 13) := (by decide +kernel : rt_ft 384 409 = some (15, 13))
theorem wf_384_471 : rx_ft (rt_P sc fm) 384 471 = some (15, 67) := (by decide +kernel : rt_ft 384 471 = some (15, 67))
theorem wf_384_87 : rx_ft (rt_P sc fm) 384 87 = some (15, 9) := (by decide +kernel : rt_ft 384 87 = some (15, 9))
theorem wf_384_97 : rx_ft (rt_P sc fm) 384 97 = some (15, 17) := (by decide +kernel : rt_ft 384 97 = some (15, 17))
theorem wi_384_0 : ri (rt_P sc fm) 384 0 (.aload_n 0) (1) := ri_of (by decide +kernel) rfl
theorem wi_384_1 : ri (rt_P sc fm) 384 1 (.getfield 471) (4) := ri_of (by decide +kernel) rfl
theorem wi_384_10 : ri (rt_P sc fm) 384 10 (.aload_n 0) (11) := ri_of (by decide +kernel) rfl
theorem wi_384_11 : ri (rt_P sc fm) 384 11 (.getfield 409) (14) := ri_of (by decide +kernel) rfl
theorem wi_384_14 : ri (rt_P sc fm) 384 14 (.ifCond .eq 5) (17) := ri_of (by decide +kernel) rfl
theorem wi_384_17 : ri (rt_P sc fm) 384 17 (.iconst 0) (18) := ri_of (by decide +kernel) rfl
theorem wi_384_18 : ri (rt_P sc fm) 384 18 (.ireturn) (19) := ri_of (by decide +kernel) rfl
theorem wi_384_19 : ri (rt_P sc fm) 384 19 (.aload_n 0) (20) := ri_of (by decide +kernel) rfl
theorem wi_384_20 : ri (rt_P sc fm) 384 20 (.iload_n 1) (21) := ri_of (by decide +kernel) rfl
theorem wi_384_21 : ri (rt_P sc fm) 384 21 (.lload_n 3) (22) := ri_of (by decide +kernel) rfl
theorem wi_384_22 : ri (rt_P sc fm) 384 22 (.invokevirtual 513) (25) := ri_of (by decide +kernel) rfl
theorem wi_384_25 : ri (rt_P sc fm) 384 25 (.istore 5) (27) := ri_of (by decide +kernel) rfl
theorem wi_384_27 : ri (rt_P sc fm) 384 27 (.iload 5) (29) := ri_of (by decide +kernel) rfl
theorem wi_384_29 : ri (rt_P sc fm) 384 29 (.ifCond .lt 6) (32) := ri_of (by decide +kernel) rfl
theorem wi_384_32 : ri (rt_P sc fm) 384 32 (.iload 5) (34) := ri_of (by decide +kernel) rfl
theorem wi_384_34 : ri (rt_P sc fm) 384 34 (.ireturn) (35) := ri_of (by decide +kernel) rfl
theorem wi_384_35 : ri (rt_P sc fm) 384 35 (.aload_n 0) (36) := ri_of (by decide +kernel) rfl
theorem wi_384_36 : ri (rt_P sc fm) 384 36 (.getfield 97) (39) := ri_of (by decide +kernel) rfl
theorem wi_384_39 : ri (rt_P sc fm) 384 39 (.iload_n 1) (40) := ri_of (by decide +kernel) rfl
theorem wi_384_4 : ri (rt_P sc fm) 384 4 (.istore_n 2) (5) := ri_of (by decide +kernel) rfl
theorem wi_384_40 : ri (rt_P sc fm) 384 40 (.iaload) (41) := ri_of (by decide +kernel) rfl
theorem wi_384_41 : ri (rt_P sc fm) 384 41 (.bipush 12) (43) := ri_of (by decide +kernel) rfl
theorem wi_384_43 : ri (rt_P sc fm) 384 43 (.if_icmp .ne 17) (46) := ri_of (by decide +kernel) rfl
theorem wi_384_46 : ri (rt_P sc fm) 384 46 (.aload_n 0) (47) := ri_of (by decide +kernel) rfl
theorem wi_384_47 : ri (rt_P sc fm) 384 47 (.bipush 6) (49) := ri_of (by decide +kernel) rfl
theorem wi_384_49 : ri (rt_P sc fm) 384 49 (.aload_n 0) (50) := ri_of (by decide +kernel) rfl
theorem wi_384_5 : ri (rt_P sc fm) 384 5 (.aload_n 0) (6) := ri_of (by decide +kernel) rfl
theorem wi_384_50 : ri (rt_P sc fm) 384 50 (.getfield 87) (53) := ri_of (by decide +kernel) rfl
theorem wi_384_53 : ri (rt_P sc fm) 384 53 (.iload_n 2) (54) := ri_of (by decide +kernel) rfl
theorem wi_384_54 : ri (rt_P sc fm) 384 54 (.iaload) (55) := ri_of (by decide +kernel) rfl
theorem wi_384_55 : ri (rt_P sc fm) 384 55 (.invokevirtual 432) (58) := ri_of (by decide +kernel) rfl
theorem wi_384_58 : ri (rt_P sc fm) 384 58 (.iconst 0) (59) := ri_of (by decide +kernel) rfl
theorem wi_384_59 : ri (rt_P sc fm) 384 59 (.ireturn) (60) := ri_of (by decide +kernel) rfl
theorem wi_384_6 : ri (rt_P sc fm) 384 6 (.invokevirtual 505) (9) := ri_of (by decide +kernel) rfl
theorem wi_384_60 : ri (rt_P sc fm) 384 60 (.aload_n 0) (61) := ri_of (by decide +kernel) rfl
theorem wi_384_61 : ri (rt_P sc fm) 384 61 (.getfield 100) (64) := ri_of (by decide +kernel) rfl
theorem wi_384_64 : ri (rt_P sc fm) 384 64 (.bipush 12) (66) := ri_of (by decide +kernel) rfl
theorem wi_384_66 : ri (rt_P sc fm) 384 66 (.iload_n 1) (67) := ri_of (by decide +kernel) rfl
theorem wi_384_67 : ri (rt_P sc fm) 384 67 (.imul) (68) := ri_of (by decide +kernel) rfl
theorem wi_384_68 : ri (rt_P sc fm) 384 68 (.aload_n 0) (69) := ri_of (by decide +kernel) rfl
theorem wi_384_69 : ri (rt_P sc fm) 384 69 (.getfield 97) (72) := ri_of (by decide +kernel) rfl
theorem wi_384_72 : ri (rt_P sc fm) 384 72 (.iload_n 1) (73) := ri_of (by decide +kernel) rfl
theorem wi_384_73 : ri (rt_P sc fm) 384 73 (.iaload) (74) := ri_of (by decide +kernel) rfl
theorem wi_384_74 : ri (rt_P sc fm) 384 74 (.iadd) (75) := ri_of (by decide +kernel) rfl
theorem wi_384_75 : ri (rt_P sc fm) 384 75 (.lload_n 3) (76) := ri_of (by decide +kernel) rfl
theorem wi_384_76 : ri (rt_P sc fm) 384 76 (.lastore) (77) := ri_of (by decide +kernel) rfl
theorem wi_384_77 : ri (rt_P sc fm) 384 77 (.aload_n 0) (78) := ri_of (by decide +kernel) rfl
theorem wi_384_78 : ri (rt_P sc fm) 384 78 (.getfield 97) (81) := ri_of (by decide +kernel) rfl
theorem wi_384_81 : ri (rt_P sc fm) 384 81 (.iload_n 1) (82) := ri_of (by decide +kernel) rfl
theorem wi_384_82 : ri (rt_P sc fm) 384 82 (.dup2) (83) := ri_of (by decide +kernel) rfl
theorem wi_384_83 : ri (rt_P sc fm) 384 83 (.iaload) (84) := ri_of (by decide +kernel) rfl
theorem wi_384_84 : ri (rt_P sc fm) 384 84 (.iconst 1) (85) := ri_of (by decide +kernel) rfl
theorem wi_384_85 : ri (rt_P sc fm) 384 85 (.iadd) (86) := ri_of (by decide +kernel) rfl
theorem wi_384_86 : ri (rt_P sc fm) 384 86 (.iastore) (87) := ri_of (by decide +kernel) rfl
theorem wi_384_87 : ri (rt_P sc fm) 384 87 (.aload_n 0) (88) := ri_of (by decide +kernel) rfl
theorem wi_384_88 : ri (rt_P sc fm) 384 88 (.getfield 97) (91) := ri_of (by decide +kernel) rfl
theorem wi_384_9 : ri (rt_P sc fm) 384 9 (.lstore_n 3) (10) := ri_of (by decide +kernel) rfl
theorem wi_384_91 : ri (rt_P sc fm) 384 91 (.iload_n 1) (92) := ri_of (by decide +kernel) rfl
theorem wi_384_92 : ri (rt_P sc fm) 384 92 (.iaload) (93) := ri_of (by decide +kernel) rfl
theorem wi_384_93 : ri (rt_P sc fm) 384 93 (.iconst 1) (94) := ri_of (by decide +kernel) rfl
theorem wi_384_94 : ri (rt_P sc fm) 384 94 (.isub) (95) := ri_of (by decide +kernel) rfl
theorem wi_384_95 : ri (rt_P sc fm) 384 95 (.ireturn) (96) := ri_of (by decide +kernel) rfl
theorem wm_377 : rx_ml (rt_P sc fm) 377 = 5 := (by decide +kernel : rt_ml 377 = 5)
theorem wr_384 : rx_rt (rt_P sc fm) 384 = (some FieldType.int) := (by decide +kernel : rt_rt 384 = (some FieldType.int))
/-- MarkHouseModel.element(I)I -/
def d_384 (n : Nat) (a1 : Int32) (c : cS) : Option (Int32 × cS) :=
  lt ((c.1 174 67) : Int32) (fun v2 =>
  Option.bind (d_381 n c) (fun r4 =>
  if (r4.2.1 174 13) = 0 then
    Option.bind (d_377 n a1 r4.1 r4.2) (fun v6 =>
    if v6 < 0 then
      if ib a1 4 then
      if (r4.2.1 182 (ix a1)) = 12 then
        if ib v2 4001 then
        Option.bind (d_97 n 6 (r4.2.1 179 (ix v2)) r4.2) (fun r19 =>
        some (0, r19))
        else none
      else
        if ib a1 4 then
        if ib ((12 * a1) + (r4.2.1 182 (ix a1))) 48 then
        lt (pL r4.2 183 (ix ((12 * a1) + (r4.2.1 182 (ix a1)))) r4.1) (fun c11 =>
        if ib a1 4 then
        if ib a1 4 then
        lt (pI c11 182 (ix a1) ((c11.1 182 (ix a1)) + 1)) (fun c15 =>
        if ib a1 4 then
        some (((c15.1 182 (ix a1)) - 1), c15)
        else none)
        else none
        else none)
        else none
        else none
      else none
    else
      some (v6, r4.2))
  else
    some (0, r4.2)))
set_option maxRecDepth 100000 in
set_option maxHeartbeats 4000000 in
theorem sp_384 {F Lo n : Nat} {a1 : Int32} {c y : cS} {w : cW} {K : Int32 × cS → Prop} {Q : ((Option Value) ⊕ String) → List va_E → Prop} (hw : rOK fm w) (hF : 3 ≤ F) (hLo : 62 ≤ Lo)  (h : wp (d_384 n a1 c) K) (hQ : ∀ r, K r → Q (.inl (some (.int r.1))) (hq false r.2 y w)) : rs (rt_P sc fm) 384 F Lo 0 [(0, .ref 174), (1, .int a1)] [] (hq false c y w) Q := by
  unfold d_384 at h
  obtain ⟨lv, elv⟩ : ∃ lv : rx_L, lv = [(0, .ref 174), (1, .int a1)] := ⟨_, rfl⟩
  rw [← elv]
  have l0 : rx_ld lv 0 = some (.ref 174) := by rw [elv]; rfl
  have l1 : rx_ld lv 1 = some (.int a1) := by rw [elv]; rfl
  refine rs_aldn wi_384_0 l0 ?_
  refine dq_gi wi_384_1 wf_384_471 tf_174_67 ?_
  obtain ⟨v2, e3, h⟩ := wp_lt h
  refine rs_topi e3 ?_
  refine dl_istn wi_384_4 rfl (fun lv l2 t1 => ?_)
  have l0 := t1 _ _ (by decide) (Or.inl rfl) l0
  have l1 := t1 _ _ (by decide) (Or.inl rfl) l1
  refine rs_aldn wi_384_5 l0 ?_
  refine rs_V wi_384_6 wc_384_505 rfl (dq_isa tf_174_0 wa_15_381) (Nat.le_trans (by decide) hF) (ml_le wm_381 (Nat.le_trans (by decide) hLo)) rfl (sp_381 hw (Nat.le_trans (by decide : 2 ≤ 3 - 1) (Nat.sub_le_sub_right hF 1)) (ml_sub wm_381 (Nat.le_trans (by decide : 42 ≤ 62 - 20) (Nat.sub_le_sub_right hLo 20))) (wp_bind h) (fun r4 h => rs_back1 ?_))
  refine dl_lstn wi_384_9 rfl (fun lv l3 t5 => ?_)
  have l0 := t5 _ _ (by decide) (by decide) (Or.inl rfl) l0
  have l1 := t5 _ _ (by decide) (by decide) (Or.inl rfl) l1
  have l2 := t5 _ _ (by decide) (by decide) (Or.inl rfl) l2
  refine rs_aldn wi_384_10 l0 ?_
  refine dq_gi wi_384_11 wf_384_409 tf_174_13 ?_
  refine rs_ifeq (tg := 19) wi_384_14 ⟨by decide, by decide⟩ (fun q => ?_) (fun q => ?_)
  ·
    have h := wp_pos h q
    refine rs_aldn wi_384_19 l0 ?_
    refine rs_ildn wi_384_20 l1 ?_
    refine rs_lldn wi_384_21 l3 ?_
    refine rs_V wi_384_22 wc_384_513 rfl (dq_isa tf_174_0 wa_15_377) (Nat.le_trans (by decide) hF) (ml_le wm_377 (Nat.le_trans (by decide) hLo)) rfl (sp_377 hw (Nat.le_trans (by decide : 0 ≤ 3 - 1) (Nat.sub_le_sub_right hF 1)) (ml_sub wm_377 (Nat.le_trans (by decide : 0 ≤ 62 - 24) (Nat.sub_le_sub_right hLo 24))) (wp_bind h) (fun v6 h => rs_back1 ?_))
    refine dl_ist wi_384_25 rfl (fun lv l5 t7 => ?_)
    have l0 := t7 _ _ (by decide) (Or.inl rfl) l0
    have l1 := t7 _ _ (by decide) (Or.inl rfl) l1
    have l2 := t7 _ _ (by decide) (Or.inl rfl) l2
    have l3 := t7 _ _ (by decide) (Or.inr (by decide)) l3
    refine rs_ild wi_384_27 l5 ?_
    refine rs_iflt (tg := 35) wi_384_29 ⟨by decide, by decide⟩ (fun q => ?_) (fun q => ?_)
    ·
      have h := wp_pos h q
      refine rs_aldn wi_384_35 l0 ?_
      refine dq_gr wi_384_36 wf_384_97 tf_174_17 ?_
      refine rs_ildn wi_384_39 l1 ?_
      obtain ⟨g8, h⟩ := wp_gd h
      refine dq_iald wi_384_40 t_182 g8 ?_
      refine rs_pure wi_384_41 rfl ?_
      refine rs_topi (v := 12) (by decide) ?_
      refine rs_icne (tg := 60) wi_384_43 ⟨by decide, by decide⟩ (fun q => ?_) (fun q => ?_)
      ·
        have h := wp_neg h q
        refine rs_aldn wi_384_60 l0 ?_
        refine dq_gr wi_384_61 wf_384_100 tf_174_18 ?_
        refine rs_pure wi_384_64 rfl ?_
        refine rs_topi (v := 12) (by decide) ?_
        refine rs_ildn wi_384_66 l1 ?_
        refine rs_pure wi_384_67 rfl ?_
        refine rs_aldn wi_384_68 l0 ?_
        refine dq_gr wi_384_69 wf_384_97 tf_174_17 ?_
        refine rs_ildn wi_384_72 l1 ?_
        obtain ⟨g9, h⟩ := wp_gd h
        refine dq_iald wi_384_73 t_182 g9 ?_
        refine rs_pure wi_384_74 rfl ?_
        refine rs_lldn wi_384_75 l3 ?_
        obtain ⟨g10, h⟩ := wp_gd h
        obtain ⟨c11, e12, h⟩ := wp_lt h
        refine dq_last wi_384_76 t_183 g10 e12 ?_
        refine rs_aldn wi_384_77 l0 ?_
        refine dq_gr wi_384_78 wf_384_97 tf_174_17 ?_
        refine rs_ildn wi_384_81 l1 ?_
        refine rs_pure wi_384_82 rfl ?_
        obtain ⟨g13, h⟩ := wp_gd h
        refine dq_iald wi_384_83 t_182 g13 ?_
        refine rs_pure wi_384_84 rfl ?_
        refine rs_topi (v := 1) (by decide) ?_
        refine rs_pure wi_384_85 rfl ?_
        obtain ⟨g14, h⟩ := wp_gd h
        obtain ⟨c15, e16, h⟩ := wp_lt h
        refine dq_iast wi_384_86 t_182 g14 e16 ?_
        refine rs_aldn wi_384_87 l0 ?_
        refine dq_gr wi_384_88 wf_384_97 tf_174_17 ?_
        refine rs_ildn wi_384_91 l1 ?_
        obtain ⟨g17, h⟩ := wp_gd h
        refine dq_iald wi_384_92 t_182 g17 ?_
        refine rs_pure wi_384_93 rfl ?_
        refine rs_topi (v := 1) (by decide) ?_
        refine rs_pure wi_384_94 rfl ?_
        exact rs_iret wi_384_95 wr_384 rfl (hQ (((c15.1 182 (ix a1)) - 1), c15) h)
      ·
        have h := wp_pos h q
        refine rs_aldn wi_384_46 l0 ?_
        refine rs_pure wi_384_47 rfl ?_
        refine rs_topi (v := 6) (by decide) ?_
        refine rs_aldn wi_384_49 l0 ?_
        refine dq_gr wi_384_50 wf_384_87 tf_174_9 ?_
        refine rs_ildn wi_384_53 l2 ?_
        obtain ⟨g18, h⟩ := wp_gd h
        refine dq_iald wi_384_54 t_179 g18 ?_
        refine rs_V wi_384_55 wc_384_432 rfl (dq_isa tf_174_0 wa_15_97) (Nat.le_trans (by decide) hF) (ml_le wm_97 (Nat.le_trans (by decide) hLo)) rfl (sp_97 hw (Nat.le_trans (by decide : 0 ≤ 3 - 1) (Nat.sub_le_sub_right hF 1)) (ml_sub wm_97 (Nat.le_trans (by decide : 0 ≤ 62 - 22) (Nat.sub_le_sub_right hLo 22))) (wp_bind h) (fun r19 h => rs_back0 ?_))
        refine rs_pure wi_384_58 rfl ?_
        refine rs_topi (v := 0) (by decide) ?_
        exact rs_iret wi_384_59 wr_384 rfl (hQ (0, r19) h)
    ·
      have h := wp_neg h q
      refine rs_ild wi_384_32 l5 ?_
      exact rs_iret wi_384_34 wr_384 rfl (hQ (v6, r4.2) h)
  ·
    have h := wp_neg h q
    refine rs_pure wi_384_17 rfl ?_
    refine rs_topi (v := 0) (by decide) ?_
    exact rs_iret wi_384_18 wr_384 rfl (hQ (0, r4.2) h)
theorem wc_379_477 : rx_ct (rt_P sc fm) 379 477 = some (0, 101, 1) := (by decide +kernel : rt_ct 379 477 = some (0, 101, 1))
theorem wf_379_409 : rx_ft (rt_P sc fm) 379 409 = some (15, 13) := (by decide +kernel : rt_ft 379 409 = some (15, 13))
theorem wf_379_471 : rx_ft (rt_P sc fm) 379 471 = some (15, 67) := (by decide +kernel : rt_ft 379 471 = some (15, 67))
theorem wi_379_0 : ri (rt_P sc fm) 379 0 (.aload_n 0) (1) := ri_of (by decide +kernel) rfl
theorem wi_379_1 : ri (rt_P sc fm) 379 1 (.getfield 409) (4) := ri_of (by decide +kernel) rfl
theorem wi_379_12 : ri (rt_P sc fm) 379 12 (.ifCond .ne 5) (15) := ri_of (by decide +kernel) rfl
theorem wi_379_15 : ri (rt_P sc fm) 379 15 (.iconst 0) (16) := ri_of (by decide +kernel) rfl
theorem wi_379_16 : ri (rt_P sc fm) 379 16 (.ireturn) (17) := ri_of (by decide +kernel) rfl
theorem wi_379_17 : ri (rt_P sc fm) 379 17 (.aload_n 0) (18) := ri_of (by decide +kernel) rfl
theorem wi_379_18 : ri (rt_P sc fm) 379 18 (.dup) (19) := ri_of (by decide +kernel) rfl
theorem wi_379_19 : ri (rt_P sc fm) 379 19 (.getfield 471) (22) := ri_of (by decide +kernel) rfl
theorem wi_379_22 : ri (rt_P sc fm) 379 22 (.iconst 1) (23) := ri_of (by decide +kernel) rfl
theorem wi_379_23 : ri (rt_P sc fm) 379 23 (.iadd) (24) := ri_of (by decide +kernel) rfl
theorem wi_379_24 : ri (rt_P sc fm) 379 24 (.putfield 471) (27) := ri_of (by decide +kernel) rfl
theorem wi_379_27 : ri (rt_P sc fm) 379 27 (.iconst 1) (28) := ri_of (by decide +kernel) rfl
theorem wi_379_28 : ri (rt_P sc fm) 379 28 (.ireturn) (29) := ri_of (by decide +kernel) rfl
theorem wi_379_4 : ri (rt_P sc fm) 379 4 (.ifCond .ne 11) (7) := ri_of (by decide +kernel) rfl
theorem wi_379_7 : ri (rt_P sc fm) 379 7 (.aload_n 0) (8) := ri_of (by decide +kernel) rfl
theorem wi_379_8 : ri (rt_P sc fm) 379 8 (.iload_n 1) (9) := ri_of (by decide +kernel) rfl
theorem wi_379_9 : ri (rt_P sc fm) 379 9 (.invokevirtual 477) (12) := ri_of (by decide +kernel) rfl
theorem wp_379_471 : rx_pt (rt_P sc fm) 379 471 = some (15, 67, .int) := (by decide +kernel : rt_pt 379 471 = some (15, 67, .int))
theorem wr_379 : rx_rt (rt_P sc fm) 379 = (some FieldType.boolean) := (by decide +kernel : rt_rt 379 = (some FieldType.boolean))
/-- MarkHouseModel.maySign(I)Z -/
def d_379 (n : Nat) (a1 : Int32) (c : cS) : Option (Int32 × cS) :=
  jn (fun p1 : Unit =>
    some (0, c))
  (fun j15 =>
  if (c.1 174 13) = 0 then
    Option.bind (d_101 n a1 c) (fun v2 =>
    if v2 = 0 then
      j15 ()
    else
      lt (pI c 174 67 ((c.1 174 67) + 1)) (fun c3 =>
      some (1, c3)))
  else
    j15 ())
set_option maxRecDepth 100000 in
set_option maxHeartbeats 4000000 in
theorem sp_379 {F Lo n : Nat} {a1 : Int32} {c y : cS} {w : cW} {K : Int32 × cS → Prop} {Q : ((Option Value) ⊕ String) → List va_E → Prop} (hw : rOK fm w) (hF : 1 ≤ F) (hLo : 21 ≤ Lo)  (h : wp (d_379 n a1 c) K) (hQ : ∀ r, K r → Q (.inl (some (.int r.1))) (hq false r.2 y w)) : rs (rt_P sc fm) 379 F Lo 0 [(0, .ref 174), (1, .int a1)] [] (hq false c y w) Q := by
  unfold d_379 at h
  obtain ⟨lv, elv⟩ : ∃ lv : rx_L, lv = [(0, .ref 174), (1, .int a1)] := ⟨_, rfl⟩
  rw [← elv]
  have l0 : rx_ld lv 0 = some (.ref 174) := by rw [elv]; rfl
  have l1 : rx_ld lv 1 = some (.int a1) := by rw [elv]; rfl
  refine rs_aldn wi_379_0 l0 ?_
  refine dq_gi wi_379_1 wf_379_409 tf_174_13 ?_
  refine wp_jn (B := fun p1 : Unit => ∀ lv, rs (rt_P sc fm) 379 F Lo 15 lv [] (hq false c y w) Q) h (fun p1 h lv => ?_) (fun j15 hj15 h => ?_)
  ·
    refine rs_pure wi_379_15 rfl ?_
    refine rs_topi (v := 0) (by decide) ?_
    exact rs_iret wi_379_16 wr_379 (nb_n (by decide)) (hQ (0, c) h)
  refine rs_ifne (tg := 15) wi_379_4 ⟨by decide, by decide⟩ (fun q => ?_) (fun q => ?_)
  ·
    have h := wp_neg h q
    exact hj15 _ h _
  ·
    have h := wp_pos h q
    refine rs_aldn wi_379_7 l0 ?_
    refine rs_ildn wi_379_8 l1 ?_
    refine rs_V wi_379_9 wc_379_477 rfl (dq_isa tf_174_0 wa_15_101) (Nat.le_trans (by decide) hF) (ml_le wm_101 (Nat.le_trans (by decide) hLo)) rfl (sp_101 hw (Nat.le_trans (by decide : 0 ≤ 1 - 1) (Nat.sub_le_sub_right hF 1)) (ml_sub wm_101 (Nat.le_trans (by decide : 0 ≤ 21 - 21) (Nat.sub_le_sub_right hLo 21))) (wp_bind h) (fun v2 h => rs_back1 ?_))
    refine rs_ifne (tg := 17) wi_379_12 ⟨by decide, by decide⟩ (fun q => ?_) (fun q => ?_)
    ·
      have h := wp_neg h q
      refine rs_aldn wi_379_17 l0 ?_
      refine rs_pure wi_379_18 rfl ?_
      refine dq_gi wi_379_19 wf_379_471 tf_174_67 ?_
      refine rs_pure wi_379_22 rfl ?_
      refine rs_topi (v := 1) (by decide) ?_
      refine rs_pure wi_379_23 rfl ?_
      obtain ⟨c3, e4, h⟩ := wp_lt h
      refine dq_pi wi_379_24 wp_379_471 tf_174_67 rfl rfl e4 ?_
      refine rs_pure wi_379_27 rfl ?_
      refine rs_topi (v := 1) (by decide) ?_
      exact rs_iret wi_379_28 wr_379 (nb_n (by decide)) (hQ (1, c3) h)
    ·
      have h := wp_pos h q
      exact hj15 _ h _
theorem t_184 : ta false 184 3 576 := ⟨rfl, by decide, by decide⟩
theorem tf_174_19 : fo false 174 15 19 (.ref 184) := ⟨_, rfl, rfl, by decide, by decide⟩
theorem wa_15_385 : rz_cn 15 (rx_yn (rt_P sc fm) 385).cls = true := (by decide +kernel : rz_cn 15 (rt_yn 385).cls = true)
theorem wc_387_524 : rx_ct (rt_P sc fm) 387 524 = some (0, 385, 3) := (by decide +kernel : rt_ct 387 524 = some (0, 385, 3))
theorem wf_387_103 : rx_ft (rt_P sc fm) 387 103 = some (15, 19) := (by decide +kernel : rt_ft 387 103 = some (15, 19))
theorem wi_387_0 : ri (rt_P sc fm) 387 0 (.aload_n 0) (1) := ri_of (by decide +kernel) rfl
theorem wi_387_1 : ri (rt_P sc fm) 387 1 (.getfield 103) (4) := ri_of (by decide +kernel) rfl
theorem wi_387_11 : ri (rt_P sc fm) 387 11 (.baload) (12) := ri_of (by decide +kernel) rfl
theorem wi_387_12 : ri (rt_P sc fm) 387 12 (.ireturn) (13) := ri_of (by decide +kernel) rfl
theorem wi_387_4 : ri (rt_P sc fm) 387 4 (.aload_n 0) (5) := ri_of (by decide +kernel) rfl
theorem wi_387_5 : ri (rt_P sc fm) 387 5 (.iload_n 1) (6) := ri_of (by decide +kernel) rfl
theorem wi_387_6 : ri (rt_P sc fm) 387 6 (.iload_n 2) (7) := ri_of (by decide +kernel) rfl
theorem wi_387_7 : ri (rt_P sc fm) 387 7 (.iload_n 3) (8) := ri_of (by decide +kernel) rfl
theorem wi_387_8 : ri (rt_P sc fm) 387 8 (.invokevirtual 524) (11) := ri_of (by decide +kernel) rfl
theorem wm_385 : rx_ml (rt_P sc fm) 385 = 4 := (by decide +kernel : rt_ml 385 = 4)
theorem wr_387 : rx_rt (rt_P sc fm) 387 = (some FieldType.boolean) := (by decide +kernel : rt_rt 387 = (some FieldType.boolean))
/-- MarkHouseModel.below(III)Z -/
def d_387 (n : Nat) (a1 : Int32) (a2 : Int32) (a3 : Int32) (c : cS) : Option (Int32) :=
  Option.bind (d_385 n a1 a2 a3) (fun v1 =>
  if ib v1 576 then
  if nb (c.1 184 (ix v1)) then
  some (c.1 184 (ix v1))
  else none
  else none)
set_option maxRecDepth 100000 in
set_option maxHeartbeats 4000000 in
theorem sp_387 {F Lo n : Nat} {a1 : Int32} {a2 : Int32} {a3 : Int32} {c y : cS} {w : cW} {K : Int32 → Prop} {Q : ((Option Value) ⊕ String) → List va_E → Prop} (hw : rOK fm w) (hF : 1 ≤ F) (hLo : 23 ≤ Lo)  (h : wp (d_387 n a1 a2 a3 c) K) (hQ : ∀ r, K r → Q (.inl (some (.int r))) (hq false c y w)) : rs (rt_P sc fm) 387 F Lo 0 [(0, .ref 174), (1, .int a1), (2, .int a2), (3, .int a3)] [] (hq false c y w) Q := by
  unfold d_387 at h
  obtain ⟨lv, elv⟩ : ∃ lv : rx_L, lv = [(0, .ref 174), (1, .int a1), (2, .int a2), (3, .int a3)] := ⟨_, rfl⟩
  rw [← elv]
  have l0 : rx_ld lv 0 = some (.ref 174) := by rw [elv]; rfl
  have l1 : rx_ld lv 1 = some (.int a1) := by rw [elv]; rfl
  have l2 : rx_ld lv 2 = some (.int a2) := by rw [elv]; rfl
  have l3 : rx_ld lv 3 = some (.int a3) := by rw [elv]; rfl
  refine rs_aldn wi_387_0 l0 ?_
  refine dq_gr wi_387_1 wf_387_103 tf_174_19 ?_
  refine rs_aldn wi_387_4 l0 ?_
  refine rs_ildn wi_387_5 l1 ?_
  refine rs_ildn wi_387_6 l2 ?_
  refine rs_ildn wi_387_7 l3 ?_
  refine rs_V wi_387_8 wc_387_524 rfl (dq_isa tf_174_0 wa_15_385) (Nat.le_trans (by decide) hF) (ml_le wm_385 (Nat.le_trans (by decide) hLo)) rfl (sp_385 (Nat.le_trans (by decide : 0 ≤ 1 - 1) (Nat.sub_le_sub_right hF 1)) (ml_sub wm_385 (Nat.le_trans (by decide : 0 ≤ 23 - 23) (Nat.sub_le_sub_right hLo 23))) (wp_bind h) (fun v1 h => rs_back1 ?_))
  obtain ⟨g2, h⟩ := wp_gd h
  refine dq_zald wi_387_11 t_184 g2 ?_
  obtain ⟨g3, h⟩ := wp_gd h
  exact rs_iret wi_387_12 wr_387 (nb_n g3) (hQ (c.1 184 (ix v1)) h)
theorem wa_15_387 : rz_cn 15 (rx_yn (rt_P sc fm) 387).cls = true := (by decide +kernel : rz_cn 15 (rt_yn 387).cls = true)
theorem wc_388_535 : rx_ct (rt_P sc fm) 388 535 = some (0, 387, 3) := (by decide +kernel : rt_ct 388 535 = some (0, 387, 3))
theorem wf_388_97 : rx_ft (rt_P sc fm) 388 97 = some (15, 17) := (by decide +kernel : rt_ft 388 97 = some (15, 17))
theorem wi_388_0 : ri (rt_P sc fm) 388 0 (.aload_n 0) (1) := ri_of (by decide +kernel) rfl
theorem wi_388_1 : ri (rt_P sc fm) 388 1 (.getfield 97) (4) := ri_of (by decide +kernel) rfl
theorem wi_388_102 : ri (rt_P sc fm) 388 102 (.aload_n 0) (103) := ri_of (by decide +kernel) rfl
theorem wi_388_103 : ri (rt_P sc fm) 388 103 (.iload_n 1) (104) := ri_of (by decide +kernel) rfl
theorem wi_388_104 : ri (rt_P sc fm) 388 104 (.iload 8) (106) := ri_of (by decide +kernel) rfl
theorem wi_388_106 : ri (rt_P sc fm) 388 106 (.iload_n 2) (107) := ri_of (by decide +kernel) rfl
theorem wi_388_107 : ri (rt_P sc fm) 388 107 (.invokevirtual 535) (110) := ri_of (by decide +kernel) rfl
theorem wi_388_11 : ri (rt_P sc fm) 388 11 (.iload 6) (13) := ri_of (by decide +kernel) rfl
theorem wi_388_110 : ri (rt_P sc fm) 388 110 (.ifCond .eq 18) (113) := ri_of (by decide +kernel) rfl
theorem wi_388_113 : ri (rt_P sc fm) 388 113 (.aload_n 0) (114) := ri_of (by decide +kernel) rfl
theorem wi_388_114 : ri (rt_P sc fm) 388 114 (.iload_n 1) (115) := ri_of (by decide +kernel) rfl
theorem wi_388_115 : ri (rt_P sc fm) 388 115 (.iload 8) (117) := ri_of (by decide +kernel) rfl
theorem wi_388_117 : ri (rt_P sc fm) 388 117 (.iload_n 3) (118) := ri_of (by decide +kernel) rfl
theorem wi_388_118 : ri (rt_P sc fm) 388 118 (.invokevirtual 535) (121) := ri_of (by decide +kernel) rfl
theorem wi_388_121 : ri (rt_P sc fm) 388 121 (.ifCond .eq 7) (124) := ri_of (by decide +kernel) rfl
theorem wi_388_124 : ri (rt_P sc fm) 388 124 (.iconst 1) (125) := ri_of (by decide +kernel) rfl
theorem wi_388_125 : ri (rt_P sc fm) 388 125 (.goto 34) (128) := ri_of (by decide +kernel) rfl
theorem wi_388_128 : ri (rt_P sc fm) 388 128 (.iconst 0) (129) := ri_of (by decide +kernel) rfl
theorem wi_388_129 : ri (rt_P sc fm) 388 129 (.goto 30) (132) := ri_of (by decide +kernel) rfl
theorem wi_388_13 : ri (rt_P sc fm) 388 13 (.iload 5) (15) := ri_of (by decide +kernel) rfl
theorem wi_388_132 : ri (rt_P sc fm) 388 132 (.aload_n 0) (133) := ri_of (by decide +kernel) rfl
theorem wi_388_133 : ri (rt_P sc fm) 388 133 (.iload_n 1) (134) := ri_of (by decide +kernel) rfl
theorem wi_388_134 : ri (rt_P sc fm) 388 134 (.iload_n 2) (135) := ri_of (by decide +kernel) rfl
theorem wi_388_135 : ri (rt_P sc fm) 388 135 (.iload 8) (137) := ri_of (by decide +kernel) rfl
theorem wi_388_137 : ri (rt_P sc fm) 388 137 (.invokevirtual 535) (140) := ri_of (by decide +kernel) rfl
theorem wi_388_140 : ri (rt_P sc fm) 388 140 (.ifCond .eq 18) (143) := ri_of (by decide +kernel) rfl
theorem wi_388_143 : ri (rt_P sc fm) 388 143 (.aload_n 0) (144) := ri_of (by decide +kernel) rfl
theorem wi_388_144 : ri (rt_P sc fm) 388 144 (.iload_n 1) (145) := ri_of (by decide +kernel) rfl
theorem wi_388_145 : ri (rt_P sc fm) 388 145 (.iload_n 3) (146) := ri_of (by decide +kernel) rfl
theorem wi_388_146 : ri (rt_P sc fm) 388 146 (.iload 8) (148) := ri_of (by decide +kernel) rfl
theorem wi_388_148 : ri (rt_P sc fm) 388 148 (.invokevirtual 535) (151) := ri_of (by decide +kernel) rfl
theorem wi_388_15 : ri (rt_P sc fm) 388 15 (.if_icmp .ge 199) (18) := ri_of (by decide +kernel) rfl
theorem wi_388_151 : ri (rt_P sc fm) 388 151 (.ifCond .eq 7) (154) := ri_of (by decide +kernel) rfl
theorem wi_388_154 : ri (rt_P sc fm) 388 154 (.iconst 1) (155) := ri_of (by decide +kernel) rfl
theorem wi_388_155 : ri (rt_P sc fm) 388 155 (.goto 4) (158) := ri_of (by decide +kernel) rfl
theorem wi_388_158 : ri (rt_P sc fm) 388 158 (.iconst 0) (159) := ri_of (by decide +kernel) rfl
theorem wi_388_159 : ri (rt_P sc fm) 388 159 (.istore 9) (161) := ri_of (by decide +kernel) rfl
theorem wi_388_161 : ri (rt_P sc fm) 388 161 (.iload 9) (163) := ri_of (by decide +kernel) rfl
theorem wi_388_163 : ri (rt_P sc fm) 388 163 (.ifCond .eq 31) (166) := ri_of (by decide +kernel) rfl
theorem wi_388_166 : ri (rt_P sc fm) 388 166 (.iload 4) (168) := ri_of (by decide +kernel) rfl
theorem wi_388_168 : ri (rt_P sc fm) 388 168 (.ifCond .eq 15) (171) := ri_of (by decide +kernel) rfl
theorem wi_388_171 : ri (rt_P sc fm) 388 171 (.aload_n 0) (172) := ri_of (by decide +kernel) rfl
theorem wi_388_172 : ri (rt_P sc fm) 388 172 (.iload_n 1) (173) := ri_of (by decide +kernel) rfl
theorem wi_388_173 : ri (rt_P sc fm) 388 173 (.iload 8) (175) := ri_of (by decide +kernel) rfl
theorem wi_388_175 : ri (rt_P sc fm) 388 175 (.iload 6) (177) := ri_of (by decide +kernel) rfl
theorem wi_388_177 : ri (rt_P sc fm) 388 177 (.invokevirtual 535) (180) := ri_of (by decide +kernel) rfl
theorem wi_388_18 : ri (rt_P sc fm) 388 18 (.iload 4) (20) := ri_of (by decide +kernel) rfl
theorem wi_388_180 : ri (rt_P sc fm) 388 180 (.goto 12) (183) := ri_of (by decide +kernel) rfl
theorem wi_388_183 : ri (rt_P sc fm) 388 183 (.aload_n 0) (184) := ri_of (by decide +kernel) rfl
theorem wi_388_184 : ri (rt_P sc fm) 388 184 (.iload_n 1) (185) := ri_of (by decide +kernel) rfl
theorem wi_388_185 : ri (rt_P sc fm) 388 185 (.iload 6) (187) := ri_of (by decide +kernel) rfl
theorem wi_388_187 : ri (rt_P sc fm) 388 187 (.iload 8) (189) := ri_of (by decide +kernel) rfl
theorem wi_388_189 : ri (rt_P sc fm) 388 189 (.invokevirtual 535) (192) := ri_of (by decide +kernel) rfl
theorem wi_388_192 : ri (rt_P sc fm) 388 192 (.istore 7) (194) := ri_of (by decide +kernel) rfl
theorem wi_388_194 : ri (rt_P sc fm) 388 194 (.iinc 8 1) (197) := ri_of (by decide +kernel) rfl
theorem wi_388_197 : ri (rt_P sc fm) 388 197 (.goto (-112)) (200) := ri_of (by decide +kernel) rfl
theorem wi_388_20 : ri (rt_P sc fm) 388 20 (.ifCond .eq 33) (23) := ri_of (by decide +kernel) rfl
theorem wi_388_200 : ri (rt_P sc fm) 388 200 (.iload 7) (202) := ri_of (by decide +kernel) rfl
theorem wi_388_202 : ri (rt_P sc fm) 388 202 (.ifCond .eq 6) (205) := ri_of (by decide +kernel) rfl
theorem wi_388_205 : ri (rt_P sc fm) 388 205 (.iload 6) (207) := ri_of (by decide +kernel) rfl
theorem wi_388_207 : ri (rt_P sc fm) 388 207 (.ireturn) (208) := ri_of (by decide +kernel) rfl
theorem wi_388_208 : ri (rt_P sc fm) 388 208 (.iinc 6 1) (211) := ri_of (by decide +kernel) rfl
theorem wi_388_211 : ri (rt_P sc fm) 388 211 (.goto (-200)) (214) := ri_of (by decide +kernel) rfl
theorem wi_388_214 : ri (rt_P sc fm) 388 214 (.iconst (-1)) (215) := ri_of (by decide +kernel) rfl
theorem wi_388_215 : ri (rt_P sc fm) 388 215 (.ireturn) (216) := ri_of (by decide +kernel) rfl
theorem wi_388_23 : ri (rt_P sc fm) 388 23 (.aload_n 0) (24) := ri_of (by decide +kernel) rfl
theorem wi_388_24 : ri (rt_P sc fm) 388 24 (.iload_n 1) (25) := ri_of (by decide +kernel) rfl
theorem wi_388_25 : ri (rt_P sc fm) 388 25 (.iload 6) (27) := ri_of (by decide +kernel) rfl
theorem wi_388_27 : ri (rt_P sc fm) 388 27 (.iload_n 2) (28) := ri_of (by decide +kernel) rfl
theorem wi_388_28 : ri (rt_P sc fm) 388 28 (.invokevirtual 535) (31) := ri_of (by decide +kernel) rfl
theorem wi_388_31 : ri (rt_P sc fm) 388 31 (.ifCond .eq 18) (34) := ri_of (by decide +kernel) rfl
theorem wi_388_34 : ri (rt_P sc fm) 388 34 (.aload_n 0) (35) := ri_of (by decide +kernel) rfl
theorem wi_388_35 : ri (rt_P sc fm) 388 35 (.iload_n 1) (36) := ri_of (by decide +kernel) rfl
theorem wi_388_36 : ri (rt_P sc fm) 388 36 (.iload 6) (38) := ri_of (by decide +kernel) rfl
theorem wi_388_38 : ri (rt_P sc fm) 388 38 (.iload_n 3) (39) := ri_of (by decide +kernel) rfl
theorem wi_388_39 : ri (rt_P sc fm) 388 39 (.invokevirtual 535) (42) := ri_of (by decide +kernel) rfl
theorem wi_388_4 : ri (rt_P sc fm) 388 4 (.iload_n 1) (5) := ri_of (by decide +kernel) rfl
theorem wi_388_42 : ri (rt_P sc fm) 388 42 (.ifCond .eq 7) (45) := ri_of (by decide +kernel) rfl
theorem wi_388_45 : ri (rt_P sc fm) 388 45 (.iconst 1) (46) := ri_of (by decide +kernel) rfl
theorem wi_388_46 : ri (rt_P sc fm) 388 46 (.goto 34) (49) := ri_of (by decide +kernel) rfl
theorem wi_388_49 : ri (rt_P sc fm) 388 49 (.iconst 0) (50) := ri_of (by decide +kernel) rfl
theorem wi_388_5 : ri (rt_P sc fm) 388 5 (.iaload) (6) := ri_of (by decide +kernel) rfl
theorem wi_388_50 : ri (rt_P sc fm) 388 50 (.goto 30) (53) := ri_of (by decide +kernel) rfl
theorem wi_388_53 : ri (rt_P sc fm) 388 53 (.aload_n 0) (54) := ri_of (by decide +kernel) rfl
theorem wi_388_54 : ri (rt_P sc fm) 388 54 (.iload_n 1) (55) := ri_of (by decide +kernel) rfl
theorem wi_388_55 : ri (rt_P sc fm) 388 55 (.iload_n 2) (56) := ri_of (by decide +kernel) rfl
theorem wi_388_56 : ri (rt_P sc fm) 388 56 (.iload 6) (58) := ri_of (by decide +kernel) rfl
theorem wi_388_58 : ri (rt_P sc fm) 388 58 (.invokevirtual 535) (61) := ri_of (by decide +kernel) rfl
theorem wi_388_6 : ri (rt_P sc fm) 388 6 (.istore 5) (8) := ri_of (by decide +kernel) rfl
theorem wi_388_61 : ri (rt_P sc fm) 388 61 (.ifCond .eq 18) (64) := ri_of (by decide +kernel) rfl
theorem wi_388_64 : ri (rt_P sc fm) 388 64 (.aload_n 0) (65) := ri_of (by decide +kernel) rfl
theorem wi_388_65 : ri (rt_P sc fm) 388 65 (.iload_n 1) (66) := ri_of (by decide +kernel) rfl
theorem wi_388_66 : ri (rt_P sc fm) 388 66 (.iload_n 3) (67) := ri_of (by decide +kernel) rfl
theorem wi_388_67 : ri (rt_P sc fm) 388 67 (.iload 6) (69) := ri_of (by decide +kernel) rfl
theorem wi_388_69 : ri (rt_P sc fm) 388 69 (.invokevirtual 535) (72) := ri_of (by decide +kernel) rfl
theorem wi_388_72 : ri (rt_P sc fm) 388 72 (.ifCond .eq 7) (75) := ri_of (by decide +kernel) rfl
theorem wi_388_75 : ri (rt_P sc fm) 388 75 (.iconst 1) (76) := ri_of (by decide +kernel) rfl
theorem wi_388_76 : ri (rt_P sc fm) 388 76 (.goto 4) (79) := ri_of (by decide +kernel) rfl
theorem wi_388_79 : ri (rt_P sc fm) 388 79 (.iconst 0) (80) := ri_of (by decide +kernel) rfl
theorem wi_388_8 : ri (rt_P sc fm) 388 8 (.iconst 0) (9) := ri_of (by decide +kernel) rfl
theorem wi_388_80 : ri (rt_P sc fm) 388 80 (.istore 7) (82) := ri_of (by decide +kernel) rfl
theorem wi_388_82 : ri (rt_P sc fm) 388 82 (.iconst 0) (83) := ri_of (by decide +kernel) rfl
theorem wi_388_83 : ri (rt_P sc fm) 388 83 (.istore 8) (85) := ri_of (by decide +kernel) rfl
theorem wi_388_85 : ri (rt_P sc fm) 388 85 (.iload 8) (87) := ri_of (by decide +kernel) rfl
theorem wi_388_87 : ri (rt_P sc fm) 388 87 (.iload 5) (89) := ri_of (by decide +kernel) rfl
theorem wi_388_89 : ri (rt_P sc fm) 388 89 (.if_icmp .ge 111) (92) := ri_of (by decide +kernel) rfl
theorem wi_388_9 : ri (rt_P sc fm) 388 9 (.istore 6) (11) := ri_of (by decide +kernel) rfl
theorem wi_388_92 : ri (rt_P sc fm) 388 92 (.iload 7) (94) := ri_of (by decide +kernel) rfl
theorem wi_388_94 : ri (rt_P sc fm) 388 94 (.ifCond .eq 106) (97) := ri_of (by decide +kernel) rfl
theorem wi_388_97 : ri (rt_P sc fm) 388 97 (.iload 4) (99) := ri_of (by decide +kernel) rfl
theorem wi_388_99 : ri (rt_P sc fm) 388 99 (.ifCond .eq 33) (102) := ri_of (by decide +kernel) rfl
theorem wm_387 : rx_ml (rt_P sc fm) 387 = 4 := (by decide +kernel : rt_ml 387 = 4)
theorem wr_388 : rx_rt (rt_P sc fm) 388 = (some FieldType.int) := (by decide +kernel : rt_rt 388 = (some FieldType.int))
/-- MarkHouseModel.least(IIIZ)I -/
def d_388 (n : Nat) (a1 : Int32) (a2 : Int32) (a3 : Int32) (a4 : Int32) (c : cS) : Option (Int32) :=
  if ib a1 4 then
  lt ((c.1 182 (ix a1)) : Int32) (fun v3 =>
  Option.bind (whl (R := (Unit) ⊕ (Int32)) (fun s6 : Int32 =>
    if v3 ≤ s6 then
      some (.inr (.inl ()))
    else
      jn (fun p7 : Int32 =>
        Option.bind (whl (R := (Int32)) (fun s10 : Int32 × Int32 =>
          if v3 ≤ s10.2 then
            some (.inr s10.1)
          else
            if s10.1 = 0 then
              some (.inr s10.1)
            else
              jn (fun p11 : Int32 =>
                jn (fun p13 : Int32 =>
                  lt (s10.2 + 1 : Int32) (fun v15 =>
                  some (.inl (p13, v15))))
                (fun j194 =>
                if p11 = 0 then
                  j194 s10.1
                else
                  jn (fun p17 : Int32 =>
                    j194 p17)
                  (fun j192 =>
                  if a4 = 0 then
                    Option.bind (d_387 n a1 s6 s10.2 c) (fun v19 =>
                    j192 v19)
                  else
                    Option.bind (d_387 n a1 s10.2 s6 c) (fun v20 =>
                    j192 v20))))
              (fun j159 =>
              if a4 = 0 then
                Option.bind (d_387 n a1 a2 s10.2 c) (fun v21 =>
                jn (fun p22 : Unit =>
                  j159 0)
                (fun j158 =>
                if v21 = 0 then
                  j158 ()
                else
                  Option.bind (d_387 n a1 a3 s10.2 c) (fun v23 =>
                  if v23 = 0 then
                    j158 ()
                  else
                    j159 1)))
              else
                Option.bind (d_387 n a1 s10.2 a2 c) (fun v24 =>
                jn (fun p25 : Unit =>
                  j159 0)
                (fun j128 =>
                if v24 = 0 then
                  j128 ()
                else
                  Option.bind (d_387 n a1 s10.2 a3 c) (fun v26 =>
                  if v26 = 0 then
                    j128 ()
                  else
                    j159 1))))) n (p7, 0))
        (fun x27 : Int32 =>
          if x27 = 0 then
            lt (s6 + 1 : Int32) (fun v29 =>
            some (.inl v29))
          else
            some (.inr (.inr s6))))
      (fun j80 =>
      if a4 = 0 then
        Option.bind (d_387 n a1 a2 s6 c) (fun v31 =>
        jn (fun p32 : Unit =>
          j80 0)
        (fun j79 =>
        if v31 = 0 then
          j79 ()
        else
          Option.bind (d_387 n a1 a3 s6 c) (fun v33 =>
          if v33 = 0 then
            j79 ()
          else
            j80 1)))
      else
        Option.bind (d_387 n a1 s6 a2 c) (fun v34 =>
        jn (fun p35 : Unit =>
          j80 0)
        (fun j49 =>
        if v34 = 0 then
          j49 ()
        else
          Option.bind (d_387 n a1 s6 a3 c) (fun v36 =>
          if v36 = 0 then
            j49 ()
          else
            j80 1))))) n 0)
  (Sum.elim (fun x37 : Unit =>
    some (-1))
  (fun x38 : Int32 =>
    some x38)))
  else none
set_option maxRecDepth 100000 in
set_option maxHeartbeats 4000000 in
theorem sp_388 {F Lo n : Nat} {a1 : Int32} {a2 : Int32} {a3 : Int32} {a4 : Int32} {c y : cS} {w : cW} {K : Int32 → Prop} {Q : ((Option Value) ⊕ String) → List va_E → Prop} (hw : rOK fm w) (hF : 2 ≤ F) (hLo : 46 ≤ Lo)  (h : wp (d_388 n a1 a2 a3 a4 c) K) (hQ : ∀ r, K r → Q (.inl (some (.int r))) (hq false c y w)) : rs (rt_P sc fm) 388 F Lo 0 [(0, .ref 174), (1, .int a1), (2, .int a2), (3, .int a3), (4, .int a4)] [] (hq false c y w) Q := by
  unfold d_388 at h
  obtain ⟨lv, elv⟩ : ∃ lv : rx_L, lv = [(0, .ref 174), (1, .int a1), (2, .int a2), (3, .int a3), (4, .int a4)] := ⟨_, rfl⟩
  rw [← elv]
  have l0 : rx_ld lv 0 = some (.ref 174) := by rw [elv]; rfl
  have l1 : rx_ld lv 1 = some (.int a1) := by rw [elv]; rfl
  have l2 : rx_ld lv 2 = some (.int a2) := by rw [elv]; rfl
  have l3 : rx_ld lv 3 = some (.int a3) := by rw [elv]; rfl
  have l4 : rx_ld lv 4 = some (.int a4) := by rw [elv]; rfl
  refine rs_aldn wi_388_0 l0 ?_
  refine dq_gr wi_388_1 wf_388_97 tf_174_17 ?_
  refine rs_ildn wi_388_4 l1 ?_
  obtain ⟨g1, h⟩ := wp_gd h
  refine dq_iald wi_388_5 t_182 g1 ?_
  obtain ⟨v3, e4, h⟩ := wp_lt h
  refine rs_topi e4 ?_
  refine dl_ist wi_388_6 rfl (fun lv l5 t2 => ?_)
  have l0 := t2 _ _ (by decide) (Or.inl rfl) l0
  have l1 := t2 _ _ (by decide) (Or.inl rfl) l1
  have l2 := t2 _ _ (by decide) (Or.inl rfl) l2
  have l3 := t2 _ _ (by decide) (Or.inl rfl) l3
  have l4 := t2 _ _ (by decide) (Or.inl rfl) l4
  refine rs_pure wi_388_8 rfl ?_
  refine rs_topi (v := 0) (by decide) ?_
  refine dl_ist wi_388_9 rfl (fun lv l6 t5 => ?_)
  have l0 := t5 _ _ (by decide) (Or.inl rfl) l0
  have l1 := t5 _ _ (by decide) (Or.inl rfl) l1
  have l2 := t5 _ _ (by decide) (Or.inl rfl) l2
  have l3 := t5 _ _ (by decide) (Or.inl rfl) l3
  have l4 := t5 _ _ (by decide) (Or.inl rfl) l4
  have l5 := t5 _ _ (by decide) (Or.inl rfl) l5
  refine whl_ex (A := fun s6 : Int32 => ∀ lv, rx_ld lv 0 = some (.ref 174) → rx_ld lv 1 = some (.int a1) → rx_ld lv 2 = some (.int a2) → rx_ld lv 3 = some (.int a3) → rx_ld lv 4 = some (.int a4) → rx_ld lv 5 = some (.int v3) → rx_ld lv 6 = some (.int s6) → rs (rt_P sc fm) 388 F Lo 11 lv [] (hq false c y w) Q) (B := (Sum.elim (fun x37 : Unit => ∀ lv, rs (rt_P sc fm) 388 F Lo 214 lv [] (hq false c y w) Q) (fun x38 : Int32 => ∀ lv, rx_ld lv 6 = some (.int x38) → rs (rt_P sc fm) 388 F Lo 205 lv [] (hq false c y w) Q))) ?_ ?_ _ _ (wp_bind h) _ l0 l1 l2 l3 l4 l5 l6
  · intro s6 h lv l0 l1 l2 l3 l4 l5 l6
    refine rs_ild wi_388_11 l6 ?_
    refine rs_ild wi_388_13 l5 ?_
    refine rs_icge (tg := 214) wi_388_15 ⟨by decide, by decide⟩ (fun q => ?_) (fun q => ?_)
    ·
      have h := wp_pos h q
      exact h _
    ·
      have h := wp_neg h q
      refine rs_ild wi_388_18 l4 ?_
      refine wp_jn (B := fun p7 : Int32 => ∀ lv, rx_ld lv 0 = some (.ref 174) → rx_ld lv 1 = some (.int a1) → rx_ld lv 2 = some (.int a2) → rx_ld lv 3 = some (.int a3) → rx_ld lv 4 = some (.int a4) → rx_ld lv 5 = some (.int v3) → rx_ld lv 6 = some (.int s6) → rs (rt_P sc fm) 388 F Lo 80 lv [.int p7] (hq false c y w) Q) h (fun p7 h lv l0 l1 l2 l3 l4 l5 l6 => ?_) (fun j80 hj80 h => ?_)
      ·
        refine dl_ist wi_388_80 rfl (fun lv l7 t8 => ?_)
        have l0 := t8 _ _ (by decide) (Or.inl rfl) l0
        have l1 := t8 _ _ (by decide) (Or.inl rfl) l1
        have l2 := t8 _ _ (by decide) (Or.inl rfl) l2
        have l3 := t8 _ _ (by decide) (Or.inl rfl) l3
        have l4 := t8 _ _ (by decide) (Or.inl rfl) l4
        have l5 := t8 _ _ (by decide) (Or.inl rfl) l5
        have l6 := t8 _ _ (by decide) (Or.inl rfl) l6
        refine rs_pure wi_388_82 rfl ?_
        refine rs_topi (v := 0) (by decide) ?_
        refine dl_ist wi_388_83 rfl (fun lv l8 t9 => ?_)
        have l0 := t9 _ _ (by decide) (Or.inl rfl) l0
        have l1 := t9 _ _ (by decide) (Or.inl rfl) l1
        have l2 := t9 _ _ (by decide) (Or.inl rfl) l2
        have l3 := t9 _ _ (by decide) (Or.inl rfl) l3
        have l4 := t9 _ _ (by decide) (Or.inl rfl) l4
        have l5 := t9 _ _ (by decide) (Or.inl rfl) l5
        have l6 := t9 _ _ (by decide) (Or.inl rfl) l6
        have l7 := t9 _ _ (by decide) (Or.inl rfl) l7
        refine whl_ex (A := fun s10 : Int32 × Int32 => ∀ lv, rx_ld lv 0 = some (.ref 174) → rx_ld lv 1 = some (.int a1) → rx_ld lv 2 = some (.int a2) → rx_ld lv 3 = some (.int a3) → rx_ld lv 4 = some (.int a4) → rx_ld lv 5 = some (.int v3) → rx_ld lv 6 = some (.int s6) → rx_ld lv 7 = some (.int s10.1) → rx_ld lv 8 = some (.int s10.2) → rs (rt_P sc fm) 388 F Lo 85 lv [] (hq false c y w) Q) (B := (fun x27 : Int32 => ∀ lv, rx_ld lv 0 = some (.ref 174) → rx_ld lv 1 = some (.int a1) → rx_ld lv 2 = some (.int a2) → rx_ld lv 3 = some (.int a3) → rx_ld lv 4 = some (.int a4) → rx_ld lv 5 = some (.int v3) → rx_ld lv 6 = some (.int s6) → rx_ld lv 7 = some (.int x27) → rs (rt_P sc fm) 388 F Lo 200 lv [] (hq false c y w) Q)) ?_ ?_ _ _ (wp_bind h) _ l0 l1 l2 l3 l4 l5 l6 l7 l8
        · intro s10 h lv l0 l1 l2 l3 l4 l5 l6 l7 l8
          refine rs_ild wi_388_85 l8 ?_
          refine rs_ild wi_388_87 l5 ?_
          refine rs_icge (tg := 200) wi_388_89 ⟨by decide, by decide⟩ (fun q => ?_) (fun q => ?_)
          ·
            have h := wp_pos h q
            exact h _ l0 l1 l2 l3 l4 l5 l6 l7
          ·
            have h := wp_neg h q
            refine rs_ild wi_388_92 l7 ?_
            refine rs_ifeq (tg := 200) wi_388_94 ⟨by decide, by decide⟩ (fun q => ?_) (fun q => ?_)
            ·
              have h := wp_pos h q
              exact h _ l0 l1 l2 l3 l4 l5 l6 l7
            ·
              have h := wp_neg h q
              refine rs_ild wi_388_97 l4 ?_
              refine wp_jn (B := fun p11 : Int32 => ∀ lv, rx_ld lv 0 = some (.ref 174) → rx_ld lv 1 = some (.int a1) → rx_ld lv 2 = some (.int a2) → rx_ld lv 3 = some (.int a3) → rx_ld lv 4 = some (.int a4) → rx_ld lv 5 = some (.int v3) → rx_ld lv 6 = some (.int s6) → rx_ld lv 7 = some (.int s10.1) → rx_ld lv 8 = some (.int s10.2) → rs (rt_P sc fm) 388 F Lo 159 lv [.int p11] (hq false c y w) Q) h (fun p11 h lv l0 l1 l2 l3 l4 l5 l6 l7 l8 => ?_) (fun j159 hj159 h => ?_)
              ·
                refine dl_ist wi_388_159 rfl (fun lv l9 t12 => ?_)
                have l0 := t12 _ _ (by decide) (Or.inl rfl) l0
                have l1 := t12 _ _ (by decide) (Or.inl rfl) l1
                have l2 := t12 _ _ (by decide) (Or.inl rfl) l2
                have l3 := t12 _ _ (by decide) (Or.inl rfl) l3
                have l4 := t12 _ _ (by decide) (Or.inl rfl) l4
                have l5 := t12 _ _ (by decide) (Or.inl rfl) l5
                have l6 := t12 _ _ (by decide) (Or.inl rfl) l6
                have l7 := t12 _ _ (by decide) (Or.inl rfl) l7
                have l8 := t12 _ _ (by decide) (Or.inl rfl) l8
                refine rs_ild wi_388_161 l9 ?_
                refine wp_jn (B := fun p13 : Int32 => ∀ lv, rx_ld lv 0 = some (.ref 174) → rx_ld lv 1 = some (.int a1) → rx_ld lv 2 = some (.int a2) → rx_ld lv 3 = some (.int a3) → rx_ld lv 4 = some (.int a4) → rx_ld lv 5 = some (.int v3) → rx_ld lv 6 = some (.int s6) → rx_ld lv 7 = some (.int p13) → rx_ld lv 8 = some (.int s10.2) → rs (rt_P sc fm) 388 F Lo 194 lv [] (hq false c y w) Q) h (fun p13 h lv l0 l1 l2 l3 l4 l5 l6 l7 l8 => ?_) (fun j194 hj194 h => ?_)
                ·
                  obtain ⟨v15, e16, h⟩ := wp_lt h
                  refine dl_inc wi_388_194 l8 rfl e16 (fun lv l8 t14 => ?_)
                  have l0 := t14 _ _ (by decide) (Or.inl rfl) l0
                  have l1 := t14 _ _ (by decide) (Or.inl rfl) l1
                  have l2 := t14 _ _ (by decide) (Or.inl rfl) l2
                  have l3 := t14 _ _ (by decide) (Or.inl rfl) l3
                  have l4 := t14 _ _ (by decide) (Or.inl rfl) l4
                  have l5 := t14 _ _ (by decide) (Or.inl rfl) l5
                  have l6 := t14 _ _ (by decide) (Or.inl rfl) l6
                  have l7 := t14 _ _ (by decide) (Or.inl rfl) l7
                  refine rs_goto (tg := 85) wi_388_197 ⟨by decide, by decide⟩ ?_
                  exact h _ l0 l1 l2 l3 l4 l5 l6 l7 l8
                refine rs_ifeq (tg := 194) wi_388_163 ⟨by decide, by decide⟩ (fun q => ?_) (fun q => ?_)
                ·
                  have h := wp_pos h q
                  exact hj194 _ h _ l0 l1 l2 l3 l4 l5 l6 l7 l8
                ·
                  have h := wp_neg h q
                  refine rs_ild wi_388_166 l4 ?_
                  refine wp_jn (B := fun p17 : Int32 => ∀ lv, rx_ld lv 0 = some (.ref 174) → rx_ld lv 1 = some (.int a1) → rx_ld lv 2 = some (.int a2) → rx_ld lv 3 = some (.int a3) → rx_ld lv 4 = some (.int a4) → rx_ld lv 5 = some (.int v3) → rx_ld lv 6 = some (.int s6) → rx_ld lv 8 = some (.int s10.2) → rs (rt_P sc fm) 388 F Lo 192 lv [.int p17] (hq false c y w) Q) h (fun p17 h lv l0 l1 l2 l3 l4 l5 l6 l8 => ?_) (fun j192 hj192 h => ?_)
                  ·
                    refine dl_ist wi_388_192 rfl (fun lv l7 t18 => ?_)
                    have l0 := t18 _ _ (by decide) (Or.inl rfl) l0
                    have l1 := t18 _ _ (by decide) (Or.inl rfl) l1
                    have l2 := t18 _ _ (by decide) (Or.inl rfl) l2
                    have l3 := t18 _ _ (by decide) (Or.inl rfl) l3
                    have l4 := t18 _ _ (by decide) (Or.inl rfl) l4
                    have l5 := t18 _ _ (by decide) (Or.inl rfl) l5
                    have l6 := t18 _ _ (by decide) (Or.inl rfl) l6
                    have l8 := t18 _ _ (by decide) (Or.inl rfl) l8
                    exact hj194 _ h _ l0 l1 l2 l3 l4 l5 l6 l7 l8
                  refine rs_ifeq (tg := 183) wi_388_168 ⟨by decide, by decide⟩ (fun q => ?_) (fun q => ?_)
                  ·
                    have h := wp_pos h q
                    refine rs_aldn wi_388_183 l0 ?_
                    refine rs_ildn wi_388_184 l1 ?_
                    refine rs_ild wi_388_185 l6 ?_
                    refine rs_ild wi_388_187 l8 ?_
                    refine rs_V wi_388_189 wc_388_535 rfl (dq_isa tf_174_0 wa_15_387) (Nat.le_trans (by decide) hF) (ml_le wm_387 (Nat.le_trans (by decide) hLo)) rfl (sp_387 hw (Nat.le_trans (by decide : 1 ≤ 2 - 1) (Nat.sub_le_sub_right hF 1)) (ml_sub wm_387 (Nat.le_trans (by decide : 23 ≤ 46 - 23) (Nat.sub_le_sub_right hLo 23))) (wp_bind h) (fun v19 h => rs_back1 ?_))
                    exact hj192 _ h _ l0 l1 l2 l3 l4 l5 l6 l8
                  ·
                    have h := wp_neg h q
                    refine rs_aldn wi_388_171 l0 ?_
                    refine rs_ildn wi_388_172 l1 ?_
                    refine rs_ild wi_388_173 l8 ?_
                    refine rs_ild wi_388_175 l6 ?_
                    refine rs_V wi_388_177 wc_388_535 rfl (dq_isa tf_174_0 wa_15_387) (Nat.le_trans (by decide) hF) (ml_le wm_387 (Nat.le_trans (by decide) hLo)) rfl (sp_387 hw (Nat.le_trans (by decide : 1 ≤ 2 - 1) (Nat.sub_le_sub_right hF 1)) (ml_sub wm_387 (Nat.le_trans (by decide : 23 ≤ 46 - 23) (Nat.sub_le_sub_right hLo 23))) (wp_bind h) (fun v20 h => rs_back1 ?_))
                    refine rs_goto (tg := 192) wi_388_180 ⟨by decide, by decide⟩ ?_
                    exact hj192 _ h _ l0 l1 l2 l3 l4 l5 l6 l8
              refine rs_ifeq (tg := 132) wi_388_99 ⟨by decide, by decide⟩ (fun q => ?_) (fun q => ?_)
              ·
                have h := wp_pos h q
                refine rs_aldn wi_388_132 l0 ?_
                refine rs_ildn wi_388_133 l1 ?_
                refine rs_ildn wi_388_134 l2 ?_
                refine rs_ild wi_388_135 l8 ?_
                refine rs_V wi_388_137 wc_388_535 rfl (dq_isa tf_174_0 wa_15_387) (Nat.le_trans (by decide) hF) (ml_le wm_387 (Nat.le_trans (by decide) hLo)) rfl (sp_387 hw (Nat.le_trans (by decide : 1 ≤ 2 - 1) (Nat.sub_le_sub_right hF 1)) (ml_sub wm_387 (Nat.le_trans (by decide : 23 ≤ 46 - 23) (Nat.sub_le_sub_right hLo 23))) (wp_bind h) (fun v21 h => rs_back1 ?_))
                refine wp_jn (B := fun p22 : Unit => ∀ lv, rx_ld lv 0 = some (.ref 174) → rx_ld lv 1 = some (.int a1) → rx_ld lv 2 = some (.int a2) → rx_ld lv 3 = some (.int a3) → rx_ld lv 4 = some (.int a4) → rx_ld lv 5 = some (.int v3) → rx_ld lv 6 = some (.int s6) → rx_ld lv 7 = some (.int s10.1) → rx_ld lv 8 = some (.int s10.2) → rs (rt_P sc fm) 388 F Lo 158 lv [] (hq false c y w) Q) h (fun p22 h lv l0 l1 l2 l3 l4 l5 l6 l7 l8 => ?_) (fun j158 hj158 h => ?_)
                ·
                  refine rs_pure wi_388_158 rfl ?_
                  refine rs_topi (v := 0) (by decide) ?_
                  exact hj159 _ h _ l0 l1 l2 l3 l4 l5 l6 l7 l8
                refine rs_ifeq (tg := 158) wi_388_140 ⟨by decide, by decide⟩ (fun q => ?_) (fun q => ?_)
                ·
                  have h := wp_pos h q
                  exact hj158 _ h _ l0 l1 l2 l3 l4 l5 l6 l7 l8
                ·
                  have h := wp_neg h q
                  refine rs_aldn wi_388_143 l0 ?_
                  refine rs_ildn wi_388_144 l1 ?_
                  refine rs_ildn wi_388_145 l3 ?_
                  refine rs_ild wi_388_146 l8 ?_
                  refine rs_V wi_388_148 wc_388_535 rfl (dq_isa tf_174_0 wa_15_387) (Nat.le_trans (by decide) hF) (ml_le wm_387 (Nat.le_trans (by decide) hLo)) rfl (sp_387 hw (Nat.le_trans (by decide : 1 ≤ 2 - 1) (Nat.sub_le_sub_right hF 1)) (ml_sub wm_387 (Nat.le_trans (by decide : 23 ≤ 46 - 23) (Nat.sub_le_sub_right hLo 23))) (wp_bind h) (fun v23 h => rs_back1 ?_))
                  refine rs_ifeq (tg := 158) wi_388_151 ⟨by decide, by decide⟩ (fun q => ?_) (fun q => ?_)
                  ·
                    have h := wp_pos h q
                    exact hj158 _ h _ l0 l1 l2 l3 l4 l5 l6 l7 l8
                  ·
                    have h := wp_neg h q
                    refine rs_pure wi_388_154 rfl ?_
                    refine rs_topi (v := 1) (by decide) ?_
                    refine rs_goto (tg := 159) wi_388_155 ⟨by decide, by decide⟩ ?_
                    exact hj159 _ h _ l0 l1 l2 l3 l4 l5 l6 l7 l8
              ·
                have h := wp_neg h q
                refine rs_aldn wi_388_102 l0 ?_
                refine rs_ildn wi_388_103 l1 ?_
                refine rs_ild wi_388_104 l8 ?_
                refine rs_ildn wi_388_106 l2 ?_
                refine rs_V wi_388_107 wc_388_535 rfl (dq_isa tf_174_0 wa_15_387) (Nat.le_trans (by decide) hF) (ml_le wm_387 (Nat.le_trans (by decide) hLo)) rfl (sp_387 hw (Nat.le_trans (by decide : 1 ≤ 2 - 1) (Nat.sub_le_sub_right hF 1)) (ml_sub wm_387 (Nat.le_trans (by decide : 23 ≤ 46 - 23) (Nat.sub_le_sub_right hLo 23))) (wp_bind h) (fun v24 h => rs_back1 ?_))
                refine wp_jn (B := fun p25 : Unit => ∀ lv, rx_ld lv 0 = some (.ref 174) → rx_ld lv 1 = some (.int a1) → rx_ld lv 2 = some (.int a2) → rx_ld lv 3 = some (.int a3) → rx_ld lv 4 = some (.int a4) → rx_ld lv 5 = some (.int v3) → rx_ld lv 6 = some (.int s6) → rx_ld lv 7 = some (.int s10.1) → rx_ld lv 8 = some (.int s10.2) → rs (rt_P sc fm) 388 F Lo 128 lv [] (hq false c y w) Q) h (fun p25 h lv l0 l1 l2 l3 l4 l5 l6 l7 l8 => ?_) (fun j128 hj128 h => ?_)
                ·
                  refine rs_pure wi_388_128 rfl ?_
                  refine rs_topi (v := 0) (by decide) ?_
                  refine rs_goto (tg := 159) wi_388_129 ⟨by decide, by decide⟩ ?_
                  exact hj159 _ h _ l0 l1 l2 l3 l4 l5 l6 l7 l8
                refine rs_ifeq (tg := 128) wi_388_110 ⟨by decide, by decide⟩ (fun q => ?_) (fun q => ?_)
                ·
                  have h := wp_pos h q
                  exact hj128 _ h _ l0 l1 l2 l3 l4 l5 l6 l7 l8
                ·
                  have h := wp_neg h q
                  refine rs_aldn wi_388_113 l0 ?_
                  refine rs_ildn wi_388_114 l1 ?_
                  refine rs_ild wi_388_115 l8 ?_
                  refine rs_ildn wi_388_117 l3 ?_
                  refine rs_V wi_388_118 wc_388_535 rfl (dq_isa tf_174_0 wa_15_387) (Nat.le_trans (by decide) hF) (ml_le wm_387 (Nat.le_trans (by decide) hLo)) rfl (sp_387 hw (Nat.le_trans (by decide : 1 ≤ 2 - 1) (Nat.sub_le_sub_right hF 1)) (ml_sub wm_387 (Nat.le_trans (by decide : 23 ≤ 46 - 23) (Nat.sub_le_sub_right hLo 23))) (wp_bind h) (fun v26 h => rs_back1 ?_))
                  refine rs_ifeq (tg := 128) wi_388_121 ⟨by decide, by decide⟩ (fun q => ?_) (fun q => ?_)
                  ·
                    have h := wp_pos h q
                    exact hj128 _ h _ l0 l1 l2 l3 l4 l5 l6 l7 l8
                  ·
                    have h := wp_neg h q
                    refine rs_pure wi_388_124 rfl ?_
                    refine rs_topi (v := 1) (by decide) ?_
                    refine rs_goto (tg := 159) wi_388_125 ⟨by decide, by decide⟩ ?_
                    exact hj159 _ h _ l0 l1 l2 l3 l4 l5 l6 l7 l8
        ·
          intro x27 h lv l0 l1 l2 l3 l4 l5 l6 l7
          refine rs_ild wi_388_200 l7 ?_
          refine rs_ifeq (tg := 208) wi_388_202 ⟨by decide, by decide⟩ (fun q => ?_) (fun q => ?_)
          ·
            have h := wp_pos h q
            obtain ⟨v29, e30, h⟩ := wp_lt h
            refine dl_inc wi_388_208 l6 rfl e30 (fun lv l6 t28 => ?_)
            have l0 := t28 _ _ (by decide) (Or.inl rfl) l0
            have l1 := t28 _ _ (by decide) (Or.inl rfl) l1
            have l2 := t28 _ _ (by decide) (Or.inl rfl) l2
            have l3 := t28 _ _ (by decide) (Or.inl rfl) l3
            have l4 := t28 _ _ (by decide) (Or.inl rfl) l4
            have l5 := t28 _ _ (by decide) (Or.inl rfl) l5
            refine rs_goto (tg := 11) wi_388_211 ⟨by decide, by decide⟩ ?_
            exact h _ l0 l1 l2 l3 l4 l5 l6
          ·
            have h := wp_neg h q
            exact h _ l6
      refine rs_ifeq (tg := 53) wi_388_20 ⟨by decide, by decide⟩ (fun q => ?_) (fun q => ?_)
      ·
        have h := wp_pos h q
        refine rs_aldn wi_388_53 l0 ?_
        refine rs_ildn wi_388_54 l1 ?_
        refine rs_ildn wi_388_55 l2 ?_
        refine rs_ild wi_388_56 l6 ?_
        refine rs_V wi_388_58 wc_388_535 rfl (dq_isa tf_174_0 wa_15_387) (Nat.le_trans (by decide) hF) (ml_le wm_387 (Nat.le_trans (by decide) hLo)) rfl (sp_387 hw (Nat.le_trans (by decide : 1 ≤ 2 - 1) (Nat.sub_le_sub_right hF 1)) (ml_sub wm_387 (Nat.le_trans (by decide : 23 ≤ 46 - 23) (Nat.sub_le_sub_right hLo 23))) (wp_bind h) (fun v31 h => rs_back1 ?_))
        refine wp_jn (B := fun p32 : Unit => ∀ lv, rx_ld lv 0 = some (.ref 174) → rx_ld lv 1 = some (.int a1) → rx_ld lv 2 = some (.int a2) → rx_ld lv 3 = some (.int a3) → rx_ld lv 4 = some (.int a4) → rx_ld lv 5 = some (.int v3) → rx_ld lv 6 = some (.int s6) → rs (rt_P sc fm) 388 F Lo 79 lv [] (hq false c y w) Q) h (fun p32 h lv l0 l1 l2 l3 l4 l5 l6 => ?_) (fun j79 hj79 h => ?_)
        ·
          refine rs_pure wi_388_79 rfl ?_
          refine rs_topi (v := 0) (by decide) ?_
          exact hj80 _ h _ l0 l1 l2 l3 l4 l5 l6
        refine rs_ifeq (tg := 79) wi_388_61 ⟨by decide, by decide⟩ (fun q => ?_) (fun q => ?_)
        ·
          have h := wp_pos h q
          exact hj79 _ h _ l0 l1 l2 l3 l4 l5 l6
        ·
          have h := wp_neg h q
          refine rs_aldn wi_388_64 l0 ?_
          refine rs_ildn wi_388_65 l1 ?_
          refine rs_ildn wi_388_66 l3 ?_
          refine rs_ild wi_388_67 l6 ?_
          refine rs_V wi_388_69 wc_388_535 rfl (dq_isa tf_174_0 wa_15_387) (Nat.le_trans (by decide) hF) (ml_le wm_387 (Nat.le_trans (by decide) hLo)) rfl (sp_387 hw (Nat.le_trans (by decide : 1 ≤ 2 - 1) (Nat.sub_le_sub_right hF 1)) (ml_sub wm_387 (Nat.le_trans (by decide : 23 ≤ 46 - 23) (Nat.sub_le_sub_right hLo 23))) (wp_bind h) (fun v33 h => rs_back1 ?_))
          refine rs_ifeq (tg := 79) wi_388_72 ⟨by decide, by decide⟩ (fun q => ?_) (fun q => ?_)
          ·
            have h := wp_pos h q
            exact hj79 _ h _ l0 l1 l2 l3 l4 l5 l6
          ·
            have h := wp_neg h q
            refine rs_pure wi_388_75 rfl ?_
            refine rs_topi (v := 1) (by decide) ?_
            refine rs_goto (tg := 80) wi_388_76 ⟨by decide, by decide⟩ ?_
            exact hj80 _ h _ l0 l1 l2 l3 l4 l5 l6
      ·
        have h := wp_neg h q
        refine rs_aldn wi_388_23 l0 ?_
        refine rs_ildn wi_388_24 l1 ?_
        refine rs_ild wi_388_25 l6 ?_
        refine rs_ildn wi_388_27 l2 ?_
        refine rs_V wi_388_28 wc_388_535 rfl (dq_isa tf_174_0 wa_15_387) (Nat.le_trans (by decide) hF) (ml_le wm_387 (Nat.le_trans (by decide) hLo)) rfl (sp_387 hw (Nat.le_trans (by decide : 1 ≤ 2 - 1) (Nat.sub_le_sub_right hF 1)) (ml_sub wm_387 (Nat.le_trans (by decide : 23 ≤ 46 - 23) (Nat.sub_le_sub_right hLo 23))) (wp_bind h) (fun v34 h => rs_back1 ?_))
        refine wp_jn (B := fun p35 : Unit => ∀ lv, rx_ld lv 0 = some (.ref 174) → rx_ld lv 1 = some (.int a1) → rx_ld lv 2 = some (.int a2) → rx_ld lv 3 = some (.int a3) → rx_ld lv 4 = some (.int a4) → rx_ld lv 5 = some (.int v3) → rx_ld lv 6 = some (.int s6) → rs (rt_P sc fm) 388 F Lo 49 lv [] (hq false c y w) Q) h (fun p35 h lv l0 l1 l2 l3 l4 l5 l6 => ?_) (fun j49 hj49 h => ?_)
        ·
          refine rs_pure wi_388_49 rfl ?_
          refine rs_topi (v := 0) (by decide) ?_
          refine rs_goto (tg := 80) wi_388_50 ⟨by decide, by decide⟩ ?_
          exact hj80 _ h _ l0 l1 l2 l3 l4 l5 l6
        refine rs_ifeq (tg := 49) wi_388_31 ⟨by decide, by decide⟩ (fun q => ?_) (fun q => ?_)
        ·
          have h := wp_pos h q
          exact hj49 _ h _ l0 l1 l2 l3 l4 l5 l6
        ·
          have h := wp_neg h q
          refine rs_aldn wi_388_34 l0 ?_
          refine rs_ildn wi_388_35 l1 ?_
          refine rs_ild wi_388_36 l6 ?_
          refine rs_ildn wi_388_38 l3 ?_
          refine rs_V wi_388_39 wc_388_535 rfl (dq_isa tf_174_0 wa_15_387) (Nat.le_trans (by decide) hF) (ml_le wm_387 (Nat.le_trans (by decide) hLo)) rfl (sp_387 hw (Nat.le_trans (by decide : 1 ≤ 2 - 1) (Nat.sub_le_sub_right hF 1)) (ml_sub wm_387 (Nat.le_trans (by decide : 23 ≤ 46 - 23) (Nat.sub_le_sub_right hLo 23))) (wp_bind h) (fun v36 h => rs_back1 ?_))
          refine rs_ifeq (tg := 49) wi_388_42 ⟨by decide, by decide⟩ (fun q => ?_) (fun q => ?_)
          ·
            have h := wp_pos h q
            exact hj49 _ h _ l0 l1 l2 l3 l4 l5 l6
          ·
            have h := wp_neg h q
            refine rs_pure wi_388_45 rfl ?_
            refine rs_topi (v := 1) (by decide) ?_
            refine rs_goto (tg := 80) wi_388_46 ⟨by decide, by decide⟩ ?_
            exact hj80 _ h _ l0 l1 l2 l3 l4 l5 l6
  ·
    refine sum_all ?_ ?_
    ·
      intro x37 h lv
      have h := wp_inl h
      refine rs_pure wi_388_214 rfl ?_
      refine rs_topi (v := (-1)) (by decide) ?_
      exact rs_iret wi_388_215 wr_388 rfl (hQ (-1) h)
    ·
      intro x38 h lv l6
      have h := wp_inr h
      refine rs_ild wi_388_205 l6 ?_
      exact rs_iret wi_388_207 wr_388 rfl (hQ x38 h)
theorem t_185 : ta false 185 0 576 := ⟨rfl, by decide, by decide⟩
theorem t_186 : ta false 186 0 576 := ⟨rfl, by decide, by decide⟩
theorem t_187 : ta false 187 0 4 := ⟨rfl, by decide, by decide⟩
theorem t_188 : ta false 188 0 4 := ⟨rfl, by decide, by decide⟩
theorem tf_174_20 : fo false 174 15 20 (.ref 185) := ⟨_, rfl, rfl, by decide, by decide⟩
theorem tf_174_21 : fo false 174 15 21 (.ref 186) := ⟨_, rfl, rfl, by decide, by decide⟩
theorem tf_174_22 : fo false 174 15 22 (.ref 187) := ⟨_, rfl, rfl, by decide, by decide⟩
theorem tf_174_23 : fo false 174 15 23 (.ref 188) := ⟨_, rfl, rfl, by decide, by decide⟩
theorem wa_15_388 : rz_cn 15 (rx_yn (rt_P sc fm) 388).cls = true := (by decide +kernel : rz_cn 15 (rt_yn 388).cls = true)
theorem wc_389_524 : rx_ct (rt_P sc fm) 389 524 = some (0, 385, 3) := (by decide +kernel : rt_ct 389 524 = some (0, 385, 3))
theorem wc_389_535 : rx_ct (rt_P sc fm) 389 535 = some (0, 387, 3) := (by decide +kernel : rt_ct 389 535 = some (0, 387, 3))
theorem wc_389_539 : rx_ct (rt_P sc fm) 389 539 = some (0, 388, 4) := (by decide +kernel : rt_ct 389 539 = some (0, 388, 4))
theorem wf_389_103 : rx_ft (rt_P sc fm) 389 103 = some (15, 19) := (by decide +kernel : rt_ft 389 103 = some (15, 19))
theorem wf_389_107 : rx_ft (rt_P sc fm) 389 107 = some (15, 20) := (by decide +kernel : rt_ft 389 107 = some (15, 20))
theorem wf_389_110 : rx_ft (rt_P sc fm) 389 110 = some (15, 21) := (by decide +kernel : rt_ft 389 110 = some (15, 21))
theorem wf_389_113 : rx_ft (rt_P sc fm) 389 113 = some (15, 22) := (by decide +kernel : rt_ft 389 113 = some (15, 22))
theorem wf_389_116 : rx_ft (rt_P sc fm) 389 116 = some (15, 23) := (by decide +kernel : rt_ft 389 116 = some (15, 23))
theorem wf_389_97 : rx_ft (rt_P sc fm) 389 97 = some (15, 17) := (by decide +kernel : rt_ft 389 97 = some (15, 17))
theorem wi_389_0 : ri (rt_P sc fm) 389 0 (.aload_n 0) (1) := ri_of (by decide +kernel) rfl
theorem wi_389_1 : ri (rt_P sc fm) 389 1 (.getfield 97) (4) := ri_of (by decide +kernel) rfl
theorem wi_389_10 : ri (rt_P sc fm) 389 10 (.iload_n 2) (11) := ri_of (by decide +kernel) rfl
theorem wi_389_102 : ri (rt_P sc fm) 389 102 (.iconst 0) (103) := ri_of (by decide +kernel) rfl
theorem wi_389_103 : ri (rt_P sc fm) 389 103 (.istore 5) (105) := ri_of (by decide +kernel) rfl
theorem wi_389_105 : ri (rt_P sc fm) 389 105 (.iload 5) (107) := ri_of (by decide +kernel) rfl
theorem wi_389_107 : ri (rt_P sc fm) 389 107 (.iload_n 2) (108) := ri_of (by decide +kernel) rfl
theorem wi_389_108 : ri (rt_P sc fm) 389 108 (.if_icmp .ge 142) (111) := ri_of (by decide +kernel) rfl
theorem wi_389_11 : ri (rt_P sc fm) 389 11 (.if_icmp .ge 76) (14) := ri_of (by decide +kernel) rfl
theorem wi_389_111 : ri (rt_P sc fm) 389 111 (.iload_n 3) (112) := ri_of (by decide +kernel) rfl
theorem wi_389_112 : ri (rt_P sc fm) 389 112 (.ifCond .eq 138) (115) := ri_of (by decide +kernel) rfl
theorem wi_389_115 : ri (rt_P sc fm) 389 115 (.iload 4) (117) := ri_of (by decide +kernel) rfl
theorem wi_389_117 : ri (rt_P sc fm) 389 117 (.iload 5) (119) := ri_of (by decide +kernel) rfl
theorem wi_389_119 : ri (rt_P sc fm) 389 119 (.if_icmp .eq 27) (122) := ri_of (by decide +kernel) rfl
theorem wi_389_122 : ri (rt_P sc fm) 389 122 (.aload_n 0) (123) := ri_of (by decide +kernel) rfl
theorem wi_389_123 : ri (rt_P sc fm) 389 123 (.iload_n 1) (124) := ri_of (by decide +kernel) rfl
theorem wi_389_124 : ri (rt_P sc fm) 389 124 (.iload 4) (126) := ri_of (by decide +kernel) rfl
theorem wi_389_126 : ri (rt_P sc fm) 389 126 (.iload 5) (128) := ri_of (by decide +kernel) rfl
theorem wi_389_128 : ri (rt_P sc fm) 389 128 (.invokevirtual 535) (131) := ri_of (by decide +kernel) rfl
theorem wi_389_131 : ri (rt_P sc fm) 389 131 (.ifCond .eq 15) (134) := ri_of (by decide +kernel) rfl
theorem wi_389_134 : ri (rt_P sc fm) 389 134 (.aload_n 0) (135) := ri_of (by decide +kernel) rfl
theorem wi_389_135 : ri (rt_P sc fm) 389 135 (.iload_n 1) (136) := ri_of (by decide +kernel) rfl
theorem wi_389_136 : ri (rt_P sc fm) 389 136 (.iload 5) (138) := ri_of (by decide +kernel) rfl
theorem wi_389_138 : ri (rt_P sc fm) 389 138 (.iload 4) (140) := ri_of (by decide +kernel) rfl
theorem wi_389_14 : ri (rt_P sc fm) 389 14 (.iconst 0) (15) := ri_of (by decide +kernel) rfl
theorem wi_389_140 : ri (rt_P sc fm) 389 140 (.invokevirtual 535) (143) := ri_of (by decide +kernel) rfl
theorem wi_389_143 : ri (rt_P sc fm) 389 143 (.ifCond .ne 7) (146) := ri_of (by decide +kernel) rfl
theorem wi_389_146 : ri (rt_P sc fm) 389 146 (.iconst 1) (147) := ri_of (by decide +kernel) rfl
theorem wi_389_147 : ri (rt_P sc fm) 389 147 (.goto 4) (150) := ri_of (by decide +kernel) rfl
theorem wi_389_15 : ri (rt_P sc fm) 389 15 (.istore 4) (17) := ri_of (by decide +kernel) rfl
theorem wi_389_150 : ri (rt_P sc fm) 389 150 (.iconst 0) (151) := ri_of (by decide +kernel) rfl
theorem wi_389_151 : ri (rt_P sc fm) 389 151 (.istore_n 3) (152) := ri_of (by decide +kernel) rfl
theorem wi_389_152 : ri (rt_P sc fm) 389 152 (.aload_n 0) (153) := ri_of (by decide +kernel) rfl
theorem wi_389_153 : ri (rt_P sc fm) 389 153 (.getfield 107) (156) := ri_of (by decide +kernel) rfl
theorem wi_389_156 : ri (rt_P sc fm) 389 156 (.aload_n 0) (157) := ri_of (by decide +kernel) rfl
theorem wi_389_157 : ri (rt_P sc fm) 389 157 (.iload_n 1) (158) := ri_of (by decide +kernel) rfl
theorem wi_389_158 : ri (rt_P sc fm) 389 158 (.iload 4) (160) := ri_of (by decide +kernel) rfl
theorem wi_389_160 : ri (rt_P sc fm) 389 160 (.iload 5) (162) := ri_of (by decide +kernel) rfl
theorem wi_389_162 : ri (rt_P sc fm) 389 162 (.invokevirtual 524) (165) := ri_of (by decide +kernel) rfl
theorem wi_389_165 : ri (rt_P sc fm) 389 165 (.aload_n 0) (166) := ri_of (by decide +kernel) rfl
theorem wi_389_166 : ri (rt_P sc fm) 389 166 (.iload_n 1) (167) := ri_of (by decide +kernel) rfl
theorem wi_389_167 : ri (rt_P sc fm) 389 167 (.iload 4) (169) := ri_of (by decide +kernel) rfl
theorem wi_389_169 : ri (rt_P sc fm) 389 169 (.iload 5) (171) := ri_of (by decide +kernel) rfl
theorem wi_389_17 : ri (rt_P sc fm) 389 17 (.iload 4) (19) := ri_of (by decide +kernel) rfl
theorem wi_389_171 : ri (rt_P sc fm) 389 171 (.iconst 0) (172) := ri_of (by decide +kernel) rfl
theorem wi_389_172 : ri (rt_P sc fm) 389 172 (.invokevirtual 539) (175) := ri_of (by decide +kernel) rfl
theorem wi_389_175 : ri (rt_P sc fm) 389 175 (.iastore) (176) := ri_of (by decide +kernel) rfl
theorem wi_389_176 : ri (rt_P sc fm) 389 176 (.aload_n 0) (177) := ri_of (by decide +kernel) rfl
theorem wi_389_177 : ri (rt_P sc fm) 389 177 (.getfield 110) (180) := ri_of (by decide +kernel) rfl
theorem wi_389_180 : ri (rt_P sc fm) 389 180 (.aload_n 0) (181) := ri_of (by decide +kernel) rfl
theorem wi_389_181 : ri (rt_P sc fm) 389 181 (.iload_n 1) (182) := ri_of (by decide +kernel) rfl
theorem wi_389_182 : ri (rt_P sc fm) 389 182 (.iload 4) (184) := ri_of (by decide +kernel) rfl
theorem wi_389_184 : ri (rt_P sc fm) 389 184 (.iload 5) (186) := ri_of (by decide +kernel) rfl
theorem wi_389_186 : ri (rt_P sc fm) 389 186 (.invokevirtual 524) (189) := ri_of (by decide +kernel) rfl
theorem wi_389_189 : ri (rt_P sc fm) 389 189 (.aload_n 0) (190) := ri_of (by decide +kernel) rfl
theorem wi_389_19 : ri (rt_P sc fm) 389 19 (.iload_n 2) (20) := ri_of (by decide +kernel) rfl
theorem wi_389_190 : ri (rt_P sc fm) 389 190 (.iload_n 1) (191) := ri_of (by decide +kernel) rfl
theorem wi_389_191 : ri (rt_P sc fm) 389 191 (.iload 4) (193) := ri_of (by decide +kernel) rfl
theorem wi_389_193 : ri (rt_P sc fm) 389 193 (.iload 5) (195) := ri_of (by decide +kernel) rfl
theorem wi_389_195 : ri (rt_P sc fm) 389 195 (.iconst 1) (196) := ri_of (by decide +kernel) rfl
theorem wi_389_196 : ri (rt_P sc fm) 389 196 (.invokevirtual 539) (199) := ri_of (by decide +kernel) rfl
theorem wi_389_199 : ri (rt_P sc fm) 389 199 (.iastore) (200) := ri_of (by decide +kernel) rfl
theorem wi_389_20 : ri (rt_P sc fm) 389 20 (.if_icmp .ge 61) (23) := ri_of (by decide +kernel) rfl
theorem wi_389_200 : ri (rt_P sc fm) 389 200 (.iload_n 3) (201) := ri_of (by decide +kernel) rfl
theorem wi_389_201 : ri (rt_P sc fm) 389 201 (.ifCond .eq 41) (204) := ri_of (by decide +kernel) rfl
theorem wi_389_204 : ri (rt_P sc fm) 389 204 (.aload_n 0) (205) := ri_of (by decide +kernel) rfl
theorem wi_389_205 : ri (rt_P sc fm) 389 205 (.getfield 107) (208) := ri_of (by decide +kernel) rfl
theorem wi_389_208 : ri (rt_P sc fm) 389 208 (.aload_n 0) (209) := ri_of (by decide +kernel) rfl
theorem wi_389_209 : ri (rt_P sc fm) 389 209 (.iload_n 1) (210) := ri_of (by decide +kernel) rfl
theorem wi_389_210 : ri (rt_P sc fm) 389 210 (.iload 4) (212) := ri_of (by decide +kernel) rfl
theorem wi_389_212 : ri (rt_P sc fm) 389 212 (.iload 5) (214) := ri_of (by decide +kernel) rfl
theorem wi_389_214 : ri (rt_P sc fm) 389 214 (.invokevirtual 524) (217) := ri_of (by decide +kernel) rfl
theorem wi_389_217 : ri (rt_P sc fm) 389 217 (.iaload) (218) := ri_of (by decide +kernel) rfl
theorem wi_389_218 : ri (rt_P sc fm) 389 218 (.ifCond .lt 24) (221) := ri_of (by decide +kernel) rfl
theorem wi_389_221 : ri (rt_P sc fm) 389 221 (.aload_n 0) (222) := ri_of (by decide +kernel) rfl
theorem wi_389_222 : ri (rt_P sc fm) 389 222 (.getfield 110) (225) := ri_of (by decide +kernel) rfl
theorem wi_389_225 : ri (rt_P sc fm) 389 225 (.aload_n 0) (226) := ri_of (by decide +kernel) rfl
theorem wi_389_226 : ri (rt_P sc fm) 389 226 (.iload_n 1) (227) := ri_of (by decide +kernel) rfl
theorem wi_389_227 : ri (rt_P sc fm) 389 227 (.iload 4) (229) := ri_of (by decide +kernel) rfl
theorem wi_389_229 : ri (rt_P sc fm) 389 229 (.iload 5) (231) := ri_of (by decide +kernel) rfl
theorem wi_389_23 : ri (rt_P sc fm) 389 23 (.iconst 0) (24) := ri_of (by decide +kernel) rfl
theorem wi_389_231 : ri (rt_P sc fm) 389 231 (.invokevirtual 524) (234) := ri_of (by decide +kernel) rfl
theorem wi_389_234 : ri (rt_P sc fm) 389 234 (.iaload) (235) := ri_of (by decide +kernel) rfl
theorem wi_389_235 : ri (rt_P sc fm) 389 235 (.ifCond .lt 7) (238) := ri_of (by decide +kernel) rfl
theorem wi_389_238 : ri (rt_P sc fm) 389 238 (.iconst 1) (239) := ri_of (by decide +kernel) rfl
theorem wi_389_239 : ri (rt_P sc fm) 389 239 (.goto 4) (242) := ri_of (by decide +kernel) rfl
theorem wi_389_24 : ri (rt_P sc fm) 389 24 (.istore 5) (26) := ri_of (by decide +kernel) rfl
theorem wi_389_242 : ri (rt_P sc fm) 389 242 (.iconst 0) (243) := ri_of (by decide +kernel) rfl
theorem wi_389_243 : ri (rt_P sc fm) 389 243 (.istore_n 3) (244) := ri_of (by decide +kernel) rfl
theorem wi_389_244 : ri (rt_P sc fm) 389 244 (.iinc 5 1) (247) := ri_of (by decide +kernel) rfl
theorem wi_389_247 : ri (rt_P sc fm) 389 247 (.goto (-142)) (250) := ri_of (by decide +kernel) rfl
theorem wi_389_250 : ri (rt_P sc fm) 389 250 (.iinc 4 1) (253) := ri_of (by decide +kernel) rfl
theorem wi_389_253 : ri (rt_P sc fm) 389 253 (.goto (-161)) (256) := ri_of (by decide +kernel) rfl
theorem wi_389_256 : ri (rt_P sc fm) 389 256 (.iconst 0) (257) := ri_of (by decide +kernel) rfl
theorem wi_389_257 : ri (rt_P sc fm) 389 257 (.istore 4) (259) := ri_of (by decide +kernel) rfl
theorem wi_389_259 : ri (rt_P sc fm) 389 259 (.iload 4) (261) := ri_of (by decide +kernel) rfl
theorem wi_389_26 : ri (rt_P sc fm) 389 26 (.iload 5) (28) := ri_of (by decide +kernel) rfl
theorem wi_389_261 : ri (rt_P sc fm) 389 261 (.iload_n 2) (262) := ri_of (by decide +kernel) rfl
theorem wi_389_262 : ri (rt_P sc fm) 389 262 (.if_icmp .ge 104) (265) := ri_of (by decide +kernel) rfl
theorem wi_389_265 : ri (rt_P sc fm) 389 265 (.iconst 1) (266) := ri_of (by decide +kernel) rfl
theorem wi_389_266 : ri (rt_P sc fm) 389 266 (.istore 5) (268) := ri_of (by decide +kernel) rfl
theorem wi_389_268 : ri (rt_P sc fm) 389 268 (.iconst 1) (269) := ri_of (by decide +kernel) rfl
theorem wi_389_269 : ri (rt_P sc fm) 389 269 (.istore 6) (271) := ri_of (by decide +kernel) rfl
theorem wi_389_271 : ri (rt_P sc fm) 389 271 (.iconst 0) (272) := ri_of (by decide +kernel) rfl
theorem wi_389_272 : ri (rt_P sc fm) 389 272 (.istore 7) (274) := ri_of (by decide +kernel) rfl
theorem wi_389_274 : ri (rt_P sc fm) 389 274 (.iload 7) (276) := ri_of (by decide +kernel) rfl
theorem wi_389_276 : ri (rt_P sc fm) 389 276 (.iload_n 2) (277) := ri_of (by decide +kernel) rfl
theorem wi_389_277 : ri (rt_P sc fm) 389 277 (.if_icmp .ge 57) (280) := ri_of (by decide +kernel) rfl
theorem wi_389_28 : ri (rt_P sc fm) 389 28 (.iload_n 2) (29) := ri_of (by decide +kernel) rfl
theorem wi_389_280 : ri (rt_P sc fm) 389 280 (.iload 5) (282) := ri_of (by decide +kernel) rfl
theorem wi_389_282 : ri (rt_P sc fm) 389 282 (.ifCond .eq 19) (285) := ri_of (by decide +kernel) rfl
theorem wi_389_285 : ri (rt_P sc fm) 389 285 (.aload_n 0) (286) := ri_of (by decide +kernel) rfl
theorem wi_389_286 : ri (rt_P sc fm) 389 286 (.iload_n 1) (287) := ri_of (by decide +kernel) rfl
theorem wi_389_287 : ri (rt_P sc fm) 389 287 (.iload 7) (289) := ri_of (by decide +kernel) rfl
theorem wi_389_289 : ri (rt_P sc fm) 389 289 (.iload 4) (291) := ri_of (by decide +kernel) rfl
theorem wi_389_29 : ri (rt_P sc fm) 389 29 (.if_icmp .ge 46) (32) := ri_of (by decide +kernel) rfl
theorem wi_389_291 : ri (rt_P sc fm) 389 291 (.invokevirtual 535) (294) := ri_of (by decide +kernel) rfl
theorem wi_389_294 : ri (rt_P sc fm) 389 294 (.ifCond .eq 7) (297) := ri_of (by decide +kernel) rfl
theorem wi_389_297 : ri (rt_P sc fm) 389 297 (.iconst 1) (298) := ri_of (by decide +kernel) rfl
theorem wi_389_298 : ri (rt_P sc fm) 389 298 (.goto 4) (301) := ri_of (by decide +kernel) rfl
theorem wi_389_301 : ri (rt_P sc fm) 389 301 (.iconst 0) (302) := ri_of (by decide +kernel) rfl
theorem wi_389_302 : ri (rt_P sc fm) 389 302 (.istore 5) (304) := ri_of (by decide +kernel) rfl
theorem wi_389_304 : ri (rt_P sc fm) 389 304 (.iload 6) (306) := ri_of (by decide +kernel) rfl
theorem wi_389_306 : ri (rt_P sc fm) 389 306 (.ifCond .eq 19) (309) := ri_of (by decide +kernel) rfl
theorem wi_389_309 : ri (rt_P sc fm) 389 309 (.aload_n 0) (310) := ri_of (by decide +kernel) rfl
theorem wi_389_310 : ri (rt_P sc fm) 389 310 (.iload_n 1) (311) := ri_of (by decide +kernel) rfl
theorem wi_389_311 : ri (rt_P sc fm) 389 311 (.iload 4) (313) := ri_of (by decide +kernel) rfl
theorem wi_389_313 : ri (rt_P sc fm) 389 313 (.iload 7) (315) := ri_of (by decide +kernel) rfl
theorem wi_389_315 : ri (rt_P sc fm) 389 315 (.invokevirtual 535) (318) := ri_of (by decide +kernel) rfl
theorem wi_389_318 : ri (rt_P sc fm) 389 318 (.ifCond .eq 7) (321) := ri_of (by decide +kernel) rfl
theorem wi_389_32 : ri (rt_P sc fm) 389 32 (.aload_n 0) (33) := ri_of (by decide +kernel) rfl
theorem wi_389_321 : ri (rt_P sc fm) 389 321 (.iconst 1) (322) := ri_of (by decide +kernel) rfl
theorem wi_389_322 : ri (rt_P sc fm) 389 322 (.goto 4) (325) := ri_of (by decide +kernel) rfl
theorem wi_389_325 : ri (rt_P sc fm) 389 325 (.iconst 0) (326) := ri_of (by decide +kernel) rfl
theorem wi_389_326 : ri (rt_P sc fm) 389 326 (.istore 6) (328) := ri_of (by decide +kernel) rfl
theorem wi_389_328 : ri (rt_P sc fm) 389 328 (.iinc 7 1) (331) := ri_of (by decide +kernel) rfl
theorem wi_389_33 : ri (rt_P sc fm) 389 33 (.iload_n 1) (34) := ri_of (by decide +kernel) rfl
theorem wi_389_331 : ri (rt_P sc fm) 389 331 (.goto (-57)) (334) := ri_of (by decide +kernel) rfl
theorem wi_389_334 : ri (rt_P sc fm) 389 334 (.iload 5) (336) := ri_of (by decide +kernel) rfl
theorem wi_389_336 : ri (rt_P sc fm) 389 336 (.ifCond .eq 11) (339) := ri_of (by decide +kernel) rfl
theorem wi_389_339 : ri (rt_P sc fm) 389 339 (.aload_n 0) (340) := ri_of (by decide +kernel) rfl
theorem wi_389_34 : ri (rt_P sc fm) 389 34 (.iload 4) (36) := ri_of (by decide +kernel) rfl
theorem wi_389_340 : ri (rt_P sc fm) 389 340 (.getfield 113) (343) := ri_of (by decide +kernel) rfl
theorem wi_389_343 : ri (rt_P sc fm) 389 343 (.iload_n 1) (344) := ri_of (by decide +kernel) rfl
theorem wi_389_344 : ri (rt_P sc fm) 389 344 (.iload 4) (346) := ri_of (by decide +kernel) rfl
theorem wi_389_346 : ri (rt_P sc fm) 389 346 (.iastore) (347) := ri_of (by decide +kernel) rfl
theorem wi_389_347 : ri (rt_P sc fm) 389 347 (.iload 6) (349) := ri_of (by decide +kernel) rfl
theorem wi_389_349 : ri (rt_P sc fm) 389 349 (.ifCond .eq 11) (352) := ri_of (by decide +kernel) rfl
theorem wi_389_352 : ri (rt_P sc fm) 389 352 (.aload_n 0) (353) := ri_of (by decide +kernel) rfl
theorem wi_389_353 : ri (rt_P sc fm) 389 353 (.getfield 116) (356) := ri_of (by decide +kernel) rfl
theorem wi_389_356 : ri (rt_P sc fm) 389 356 (.iload_n 1) (357) := ri_of (by decide +kernel) rfl
theorem wi_389_357 : ri (rt_P sc fm) 389 357 (.iload 4) (359) := ri_of (by decide +kernel) rfl
theorem wi_389_359 : ri (rt_P sc fm) 389 359 (.iastore) (360) := ri_of (by decide +kernel) rfl
theorem wi_389_36 : ri (rt_P sc fm) 389 36 (.iload_n 3) (37) := ri_of (by decide +kernel) rfl
theorem wi_389_360 : ri (rt_P sc fm) 389 360 (.iinc 4 1) (363) := ri_of (by decide +kernel) rfl
theorem wi_389_363 : ri (rt_P sc fm) 389 363 (.goto (-104)) (366) := ri_of (by decide +kernel) rfl
theorem wi_389_366 : ri (rt_P sc fm) 389 366 (.iload_n 3) (367) := ri_of (by decide +kernel) rfl
theorem wi_389_367 : ri (rt_P sc fm) 389 367 (.ireturn) (368) := ri_of (by decide +kernel) rfl
theorem wi_389_37 : ri (rt_P sc fm) 389 37 (.invokevirtual 535) (40) := ri_of (by decide +kernel) rfl
theorem wi_389_4 : ri (rt_P sc fm) 389 4 (.iload_n 1) (5) := ri_of (by decide +kernel) rfl
theorem wi_389_40 : ri (rt_P sc fm) 389 40 (.ifCond .eq 29) (43) := ri_of (by decide +kernel) rfl
theorem wi_389_43 : ri (rt_P sc fm) 389 43 (.aload_n 0) (44) := ri_of (by decide +kernel) rfl
theorem wi_389_44 : ri (rt_P sc fm) 389 44 (.iload_n 1) (45) := ri_of (by decide +kernel) rfl
theorem wi_389_45 : ri (rt_P sc fm) 389 45 (.iload_n 3) (46) := ri_of (by decide +kernel) rfl
theorem wi_389_46 : ri (rt_P sc fm) 389 46 (.iload 5) (48) := ri_of (by decide +kernel) rfl
theorem wi_389_48 : ri (rt_P sc fm) 389 48 (.invokevirtual 535) (51) := ri_of (by decide +kernel) rfl
theorem wi_389_5 : ri (rt_P sc fm) 389 5 (.iaload) (6) := ri_of (by decide +kernel) rfl
theorem wi_389_51 : ri (rt_P sc fm) 389 51 (.ifCond .eq 18) (54) := ri_of (by decide +kernel) rfl
theorem wi_389_54 : ri (rt_P sc fm) 389 54 (.aload_n 0) (55) := ri_of (by decide +kernel) rfl
theorem wi_389_55 : ri (rt_P sc fm) 389 55 (.getfield 103) (58) := ri_of (by decide +kernel) rfl
theorem wi_389_58 : ri (rt_P sc fm) 389 58 (.aload_n 0) (59) := ri_of (by decide +kernel) rfl
theorem wi_389_59 : ri (rt_P sc fm) 389 59 (.iload_n 1) (60) := ri_of (by decide +kernel) rfl
theorem wi_389_6 : ri (rt_P sc fm) 389 6 (.istore_n 2) (7) := ri_of (by decide +kernel) rfl
theorem wi_389_60 : ri (rt_P sc fm) 389 60 (.iload 4) (62) := ri_of (by decide +kernel) rfl
theorem wi_389_62 : ri (rt_P sc fm) 389 62 (.iload 5) (64) := ri_of (by decide +kernel) rfl
theorem wi_389_64 : ri (rt_P sc fm) 389 64 (.invokevirtual 524) (67) := ri_of (by decide +kernel) rfl
theorem wi_389_67 : ri (rt_P sc fm) 389 67 (.iconst 1) (68) := ri_of (by decide +kernel) rfl
theorem wi_389_68 : ri (rt_P sc fm) 389 68 (.bastore) (69) := ri_of (by decide +kernel) rfl
theorem wi_389_69 : ri (rt_P sc fm) 389 69 (.iinc 5 1) (72) := ri_of (by decide +kernel) rfl
theorem wi_389_7 : ri (rt_P sc fm) 389 7 (.iconst 0) (8) := ri_of (by decide +kernel) rfl
theorem wi_389_72 : ri (rt_P sc fm) 389 72 (.goto (-46)) (75) := ri_of (by decide +kernel) rfl
theorem wi_389_75 : ri (rt_P sc fm) 389 75 (.iinc 4 1) (78) := ri_of (by decide +kernel) rfl
theorem wi_389_78 : ri (rt_P sc fm) 389 78 (.goto (-61)) (81) := ri_of (by decide +kernel) rfl
theorem wi_389_8 : ri (rt_P sc fm) 389 8 (.istore_n 3) (9) := ri_of (by decide +kernel) rfl
theorem wi_389_81 : ri (rt_P sc fm) 389 81 (.iinc 3 1) (84) := ri_of (by decide +kernel) rfl
theorem wi_389_84 : ri (rt_P sc fm) 389 84 (.goto (-75)) (87) := ri_of (by decide +kernel) rfl
theorem wi_389_87 : ri (rt_P sc fm) 389 87 (.iconst 1) (88) := ri_of (by decide +kernel) rfl
theorem wi_389_88 : ri (rt_P sc fm) 389 88 (.istore_n 3) (89) := ri_of (by decide +kernel) rfl
theorem wi_389_89 : ri (rt_P sc fm) 389 89 (.iconst 0) (90) := ri_of (by decide +kernel) rfl
theorem wi_389_9 : ri (rt_P sc fm) 389 9 (.iload_n 3) (10) := ri_of (by decide +kernel) rfl
theorem wi_389_90 : ri (rt_P sc fm) 389 90 (.istore 4) (92) := ri_of (by decide +kernel) rfl
theorem wi_389_92 : ri (rt_P sc fm) 389 92 (.iload 4) (94) := ri_of (by decide +kernel) rfl
theorem wi_389_94 : ri (rt_P sc fm) 389 94 (.iload_n 2) (95) := ri_of (by decide +kernel) rfl
theorem wi_389_95 : ri (rt_P sc fm) 389 95 (.if_icmp .ge 161) (98) := ri_of (by decide +kernel) rfl
theorem wi_389_98 : ri (rt_P sc fm) 389 98 (.iload_n 3) (99) := ri_of (by decide +kernel) rfl
theorem wi_389_99 : ri (rt_P sc fm) 389 99 (.ifCond .eq 157) (102) := ri_of (by decide +kernel) rfl
theorem wm_388 : rx_ml (rt_P sc fm) 388 = 10 := (by decide +kernel : rt_ml 388 = 10)
theorem wr_389 : rx_rt (rt_P sc fm) 389 = (some FieldType.boolean) := (by decide +kernel : rt_rt 389 = (some FieldType.boolean))
/-- MarkHouseModel.isLattice(I)Z -/
def d_389 (n : Nat) (a1 : Int32) (c : cS) : Option (Int32 × cS) :=
  if ib a1 4 then
  lt ((c.1 182 (ix a1)) : Int32) (fun v3 =>
  Option.bind (whl (R := (cS)) (fun s6 : Int32 × cS =>
    if v3 ≤ s6.1 then
      some (.inr s6.2)
    else
      Option.bind (whl (R := (cS)) (fun s8 : Int32 × cS =>
        if v3 ≤ s8.1 then
          some (.inr s8.2)
        else
          Option.bind (whl (R := (cS)) (fun s10 : Int32 × cS =>
            if v3 ≤ s10.1 then
              some (.inr s10.2)
            else
              Option.bind (d_387 n a1 s8.1 s6.1 s10.2) (fun v11 =>
              jn (fun p12 : cS =>
                lt (s10.1 + 1 : Int32) (fun v14 =>
                some (.inl (v14, p12))))
              (fun j69 =>
              if v11 = 0 then
                j69 s10.2
              else
                Option.bind (d_387 n a1 s6.1 s10.1 s10.2) (fun v16 =>
                if v16 = 0 then
                  j69 s10.2
                else
                  Option.bind (d_385 n a1 s8.1 s10.1) (fun v17 =>
                  if ib v17 576 then
                  lt (pI s10.2 184 (ix v17) (vp_nar .boolean 1)) (fun c19 =>
                  j69 c19)
                  else none))))) n (0, s8.2))
          (fun x21 : cS =>
            lt (s8.1 + 1 : Int32) (fun v23 =>
            some (.inl (v23, x21))))) n (0, s6.2))
      (fun x25 : cS =>
        lt (s6.1 + 1 : Int32) (fun v27 =>
        some (.inl (v27, x25))))) n (0, c))
  (fun x29 : cS =>
    Option.bind (whl (R := (Int32 × cS)) (fun s32 : Int32 × Int32 × cS =>
      if v3 ≤ s32.2.1 then
        some (.inr (s32.1, s32.2.2))
      else
        if s32.1 = 0 then
          some (.inr (s32.1, s32.2.2))
        else
          Option.bind (whl (R := (Int32 × cS)) (fun s34 : Int32 × Int32 × cS =>
            if v3 ≤ s34.2.1 then
              some (.inr (s34.1, s34.2.2))
            else
              if s34.1 = 0 then
                some (.inr (s34.1, s34.2.2))
              else
                jn (fun p35 : Int32 =>
                  Option.bind (d_385 n a1 s32.2.1 s34.2.1) (fun v37 =>
                  Option.bind (d_388 n a1 s32.2.1 s34.2.1 0 s34.2.2) (fun v38 =>
                  if ib v37 576 then
                  lt (pI s34.2.2 185 (ix v37) v38) (fun c40 =>
                  Option.bind (d_385 n a1 s32.2.1 s34.2.1) (fun v42 =>
                  Option.bind (d_388 n a1 s32.2.1 s34.2.1 1 c40) (fun v43 =>
                  if ib v42 576 then
                  lt (pI c40 186 (ix v42) v43) (fun c45 =>
                  jn (fun p47 : Int32 =>
                    lt (s34.2.1 + 1 : Int32) (fun v50 =>
                    some (.inl (p47, v50, c45))))
                  (fun j243 =>
                  jn (fun p52 : Unit =>
                    j243 0)
                  (fun j242 =>
                  if p35 = 0 then
                    j242 ()
                  else
                    Option.bind (d_385 n a1 s32.2.1 s34.2.1) (fun v53 =>
                    if ib v53 576 then
                    if (c45.1 185 (ix v53)) < 0 then
                      j242 ()
                    else
                      Option.bind (d_385 n a1 s32.2.1 s34.2.1) (fun v55 =>
                      if ib v55 576 then
                      if (c45.1 186 (ix v55)) < 0 then
                        j242 ()
                      else
                        j243 1
                      else none)
                    else none))))
                  else none)))
                  else none)))
                (fun j151 =>
                jn (fun p57 : Unit =>
                  j151 1)
                (fun j146 =>
                if s32.2.1 = s34.2.1 then
                  j146 ()
                else
                  Option.bind (d_387 n a1 s32.2.1 s34.2.1 s34.2.2) (fun v58 =>
                  if v58 = 0 then
                    j146 ()
                  else
                    Option.bind (d_387 n a1 s34.2.1 s32.2.1 s34.2.2) (fun v59 =>
                    if v59 = 0 then
                      j146 ()
                    else
                      j151 0))))) n (s32.1, 0, s32.2.2))
          (fun x60 : Int32 × cS =>
            lt (s32.2.1 + 1 : Int32) (fun v62 =>
            some (.inl (x60.1, v62, x60.2))))) n (1, 0, x29))
    (fun x64 : Int32 × cS =>
      Option.bind (whl (R := (cS)) (fun s66 : Int32 × cS =>
        if v3 ≤ s66.1 then
          some (.inr s66.2)
        else
          Option.bind (whl (R := (Int32 × Int32)) (fun s70 : Int32 × Int32 × Int32 =>
            if v3 ≤ s70.2.2 then
              some (.inr (s70.1, s70.2.1))
            else
              jn (fun p71 : Int32 =>
                jn (fun p73 : Int32 =>
                  lt (s70.2.2 + 1 : Int32) (fun v76 =>
                  some (.inl (p71, p73, v76))))
                (fun j326 =>
                jn (fun p78 : Unit =>
                  j326 0)
                (fun j325 =>
                if s70.2.1 = 0 then
                  j325 ()
                else
                  Option.bind (d_387 n a1 s66.1 s70.2.2 s66.2) (fun v79 =>
                  if v79 = 0 then
                    j325 ()
                  else
                    j326 1))))
              (fun j302 =>
              jn (fun p80 : Unit =>
                j302 0)
              (fun j301 =>
              if s70.1 = 0 then
                j301 ()
              else
                Option.bind (d_387 n a1 s70.2.2 s66.1 s66.2) (fun v81 =>
                if v81 = 0 then
                  j301 ()
                else
                  j302 1)))) n (1, 1, 0))
          (fun x82 : Int32 × Int32 =>
            jn (fun p83 : cS =>
              jn (fun p84 : cS =>
                lt (s66.1 + 1 : Int32) (fun v86 =>
                some (.inl (v86, p84))))
              (fun j360 =>
              if x82.2 = 0 then
                j360 p83
              else
                if ib a1 4 then
                lt (pI p83 188 (ix a1) s66.1) (fun c89 =>
                j360 c89)
                else none))
            (fun j347 =>
            if x82.1 = 0 then
              j347 s66.2
            else
              if ib a1 4 then
              lt (pI s66.2 187 (ix a1) s66.1) (fun c92 =>
              j347 c92)
              else none))) n (0, x64.2))
      (fun x94 : cS =>
        if nb x64.1 then
        some (x64.1, x94)
        else none))))
  else none
set_option maxRecDepth 100000 in
set_option maxHeartbeats 4000000 in
theorem sp_389 {F Lo n : Nat} {a1 : Int32} {c y : cS} {w : cW} {K : Int32 × cS → Prop} {Q : ((Option Value) ⊕ String) → List va_E → Prop} (hw : rOK fm w) (hF : 3 ≤ F) (hLo : 75 ≤ Lo)  (h : wp (d_389 n a1 c) K) (hQ : ∀ r, K r → Q (.inl (some (.int r.1))) (hq false r.2 y w)) : rs (rt_P sc fm) 389 F Lo 0 [(0, .ref 174), (1, .int a1)] [] (hq false c y w) Q := by
  unfold d_389 at h
  obtain ⟨lv, elv⟩ : ∃ lv : rx_L, lv = [(0, .ref 174), (1, .int a1)] := ⟨_, rfl⟩
  rw [← elv]
  have l0 : rx_ld lv 0 = some (.ref 174) := by rw [elv]; rfl
  have l1 : rx_ld lv 1 = some (.int a1) := by rw [elv]; rfl
  refine rs_aldn wi_389_0 l0 ?_
  refine dq_gr wi_389_1 wf_389_97 tf_174_17 ?_
  refine rs_ildn wi_389_4 l1 ?_
  obtain ⟨g1, h⟩ := wp_gd h
  refine dq_iald wi_389_5 t_182 g1 ?_
  obtain ⟨v3, e4, h⟩ := wp_lt h
  refine rs_topi e4 ?_
  refine dl_istn wi_389_6 rfl (fun lv l2 t2 => ?_)
  have l0 := t2 _ _ (by decide) (Or.inl rfl) l0
  have l1 := t2 _ _ (by decide) (Or.inl rfl) l1
  refine rs_pure wi_389_7 rfl ?_
  refine rs_topi (v := 0) (by decide) ?_
  refine dl_istn wi_389_8 rfl (fun lv l3 t5 => ?_)
  have l0 := t5 _ _ (by decide) (Or.inl rfl) l0
  have l1 := t5 _ _ (by decide) (Or.inl rfl) l1
  have l2 := t5 _ _ (by decide) (Or.inl rfl) l2
  refine whl_ex (A := fun s6 : Int32 × cS => ∀ lv, rx_ld lv 0 = some (.ref 174) → rx_ld lv 1 = some (.int a1) → rx_ld lv 2 = some (.int v3) → rx_ld lv 3 = some (.int s6.1) → rs (rt_P sc fm) 389 F Lo 9 lv [] (hq false s6.2 y w) Q) (B := (fun x29 : cS => ∀ lv, rx_ld lv 0 = some (.ref 174) → rx_ld lv 1 = some (.int a1) → rx_ld lv 2 = some (.int v3) → rs (rt_P sc fm) 389 F Lo 87 lv [] (hq false x29 y w) Q)) ?_ ?_ _ _ (wp_bind h) _ l0 l1 l2 l3
  · intro s6 h lv l0 l1 l2 l3
    refine rs_ildn wi_389_9 l3 ?_
    refine rs_ildn wi_389_10 l2 ?_
    refine rs_icge (tg := 87) wi_389_11 ⟨by decide, by decide⟩ (fun q => ?_) (fun q => ?_)
    ·
      have h := wp_pos h q
      exact h _ l0 l1 l2
    ·
      have h := wp_neg h q
      refine rs_pure wi_389_14 rfl ?_
      refine rs_topi (v := 0) (by decide) ?_
      refine dl_ist wi_389_15 rfl (fun lv l4 t7 => ?_)
      have l0 := t7 _ _ (by decide) (Or.inl rfl) l0
      have l1 := t7 _ _ (by decide) (Or.inl rfl) l1
      have l2 := t7 _ _ (by decide) (Or.inl rfl) l2
      have l3 := t7 _ _ (by decide) (Or.inl rfl) l3
      refine whl_ex (A := fun s8 : Int32 × cS => ∀ lv, rx_ld lv 0 = some (.ref 174) → rx_ld lv 1 = some (.int a1) → rx_ld lv 2 = some (.int v3) → rx_ld lv 3 = some (.int s6.1) → rx_ld lv 4 = some (.int s8.1) → rs (rt_P sc fm) 389 F Lo 17 lv [] (hq false s8.2 y w) Q) (B := (fun x25 : cS => ∀ lv, rx_ld lv 0 = some (.ref 174) → rx_ld lv 1 = some (.int a1) → rx_ld lv 2 = some (.int v3) → rx_ld lv 3 = some (.int s6.1) → rs (rt_P sc fm) 389 F Lo 81 lv [] (hq false x25 y w) Q)) ?_ ?_ _ _ (wp_bind h) _ l0 l1 l2 l3 l4
      · intro s8 h lv l0 l1 l2 l3 l4
        refine rs_ild wi_389_17 l4 ?_
        refine rs_ildn wi_389_19 l2 ?_
        refine rs_icge (tg := 81) wi_389_20 ⟨by decide, by decide⟩ (fun q => ?_) (fun q => ?_)
        ·
          have h := wp_pos h q
          exact h _ l0 l1 l2 l3
        ·
          have h := wp_neg h q
          refine rs_pure wi_389_23 rfl ?_
          refine rs_topi (v := 0) (by decide) ?_
          refine dl_ist wi_389_24 rfl (fun lv l5 t9 => ?_)
          have l0 := t9 _ _ (by decide) (Or.inl rfl) l0
          have l1 := t9 _ _ (by decide) (Or.inl rfl) l1
          have l2 := t9 _ _ (by decide) (Or.inl rfl) l2
          have l3 := t9 _ _ (by decide) (Or.inl rfl) l3
          have l4 := t9 _ _ (by decide) (Or.inl rfl) l4
          refine whl_ex (A := fun s10 : Int32 × cS => ∀ lv, rx_ld lv 0 = some (.ref 174) → rx_ld lv 1 = some (.int a1) → rx_ld lv 2 = some (.int v3) → rx_ld lv 3 = some (.int s6.1) → rx_ld lv 4 = some (.int s8.1) → rx_ld lv 5 = some (.int s10.1) → rs (rt_P sc fm) 389 F Lo 26 lv [] (hq false s10.2 y w) Q) (B := (fun x21 : cS => ∀ lv, rx_ld lv 0 = some (.ref 174) → rx_ld lv 1 = some (.int a1) → rx_ld lv 2 = some (.int v3) → rx_ld lv 3 = some (.int s6.1) → rx_ld lv 4 = some (.int s8.1) → rs (rt_P sc fm) 389 F Lo 75 lv [] (hq false x21 y w) Q)) ?_ ?_ _ _ (wp_bind h) _ l0 l1 l2 l3 l4 l5
          · intro s10 h lv l0 l1 l2 l3 l4 l5
            refine rs_ild wi_389_26 l5 ?_
            refine rs_ildn wi_389_28 l2 ?_
            refine rs_icge (tg := 75) wi_389_29 ⟨by decide, by decide⟩ (fun q => ?_) (fun q => ?_)
            ·
              have h := wp_pos h q
              exact h _ l0 l1 l2 l3 l4
            ·
              have h := wp_neg h q
              refine rs_aldn wi_389_32 l0 ?_
              refine rs_ildn wi_389_33 l1 ?_
              refine rs_ild wi_389_34 l4 ?_
              refine rs_ildn wi_389_36 l3 ?_
              refine rs_V wi_389_37 wc_389_535 rfl (dq_isa tf_174_0 wa_15_387) (Nat.le_trans (by decide) hF) (ml_le wm_387 (Nat.le_trans (by decide) hLo)) rfl (sp_387 hw (Nat.le_trans (by decide : 1 ≤ 3 - 1) (Nat.sub_le_sub_right hF 1)) (ml_sub wm_387 (Nat.le_trans (by decide : 23 ≤ 75 - 23) (Nat.sub_le_sub_right hLo 23))) (wp_bind h) (fun v11 h => rs_back1 ?_))
              refine wp_jn (B := fun p12 : cS => ∀ lv, rx_ld lv 0 = some (.ref 174) → rx_ld lv 1 = some (.int a1) → rx_ld lv 2 = some (.int v3) → rx_ld lv 3 = some (.int s6.1) → rx_ld lv 4 = some (.int s8.1) → rx_ld lv 5 = some (.int s10.1) → rs (rt_P sc fm) 389 F Lo 69 lv [] (hq false p12 y w) Q) h (fun p12 h lv l0 l1 l2 l3 l4 l5 => ?_) (fun j69 hj69 h => ?_)
              ·
                obtain ⟨v14, e15, h⟩ := wp_lt h
                refine dl_inc wi_389_69 l5 rfl e15 (fun lv l5 t13 => ?_)
                have l0 := t13 _ _ (by decide) (Or.inl rfl) l0
                have l1 := t13 _ _ (by decide) (Or.inl rfl) l1
                have l2 := t13 _ _ (by decide) (Or.inl rfl) l2
                have l3 := t13 _ _ (by decide) (Or.inl rfl) l3
                have l4 := t13 _ _ (by decide) (Or.inl rfl) l4
                refine rs_goto (tg := 26) wi_389_72 ⟨by decide, by decide⟩ ?_
                exact h _ l0 l1 l2 l3 l4 l5
              refine rs_ifeq (tg := 69) wi_389_40 ⟨by decide, by decide⟩ (fun q => ?_) (fun q => ?_)
              ·
                have h := wp_pos h q
                exact hj69 _ h _ l0 l1 l2 l3 l4 l5
              ·
                have h := wp_neg h q
                refine rs_aldn wi_389_43 l0 ?_
                refine rs_ildn wi_389_44 l1 ?_
                refine rs_ildn wi_389_45 l3 ?_
                refine rs_ild wi_389_46 l5 ?_
                refine rs_V wi_389_48 wc_389_535 rfl (dq_isa tf_174_0 wa_15_387) (Nat.le_trans (by decide) hF) (ml_le wm_387 (Nat.le_trans (by decide) hLo)) rfl (sp_387 hw (Nat.le_trans (by decide : 1 ≤ 3 - 1) (Nat.sub_le_sub_right hF 1)) (ml_sub wm_387 (Nat.le_trans (by decide : 23 ≤ 75 - 23) (Nat.sub_le_sub_right hLo 23))) (wp_bind h) (fun v16 h => rs_back1 ?_))
                refine rs_ifeq (tg := 69) wi_389_51 ⟨by decide, by decide⟩ (fun q => ?_) (fun q => ?_)
                ·
                  have h := wp_pos h q
                  exact hj69 _ h _ l0 l1 l2 l3 l4 l5
                ·
                  have h := wp_neg h q
                  refine rs_aldn wi_389_54 l0 ?_
                  refine dq_gr wi_389_55 wf_389_103 tf_174_19 ?_
                  refine rs_aldn wi_389_58 l0 ?_
                  refine rs_ildn wi_389_59 l1 ?_
                  refine rs_ild wi_389_60 l4 ?_
                  refine rs_ild wi_389_62 l5 ?_
                  refine rs_V wi_389_64 wc_389_524 rfl (dq_isa tf_174_0 wa_15_385) (Nat.le_trans (by decide) hF) (ml_le wm_385 (Nat.le_trans (by decide) hLo)) rfl (sp_385 (Nat.le_trans (by decide : 0 ≤ 3 - 1) (Nat.sub_le_sub_right hF 1)) (ml_sub wm_385 (Nat.le_trans (by decide : 0 ≤ 75 - 23) (Nat.sub_le_sub_right hLo 23))) (wp_bind h) (fun v17 h => rs_back1 ?_))
                  refine rs_pure wi_389_67 rfl ?_
                  refine rs_topi (v := 1) (by decide) ?_
                  obtain ⟨g18, h⟩ := wp_gd h
                  obtain ⟨c19, e20, h⟩ := wp_lt h
                  refine dq_zast wi_389_68 t_184 g18 e20 ?_
                  exact hj69 _ h _ l0 l1 l2 l3 l4 l5
          ·
            intro x21 h lv l0 l1 l2 l3 l4
            obtain ⟨v23, e24, h⟩ := wp_lt h
            refine dl_inc wi_389_75 l4 rfl e24 (fun lv l4 t22 => ?_)
            have l0 := t22 _ _ (by decide) (Or.inl rfl) l0
            have l1 := t22 _ _ (by decide) (Or.inl rfl) l1
            have l2 := t22 _ _ (by decide) (Or.inl rfl) l2
            have l3 := t22 _ _ (by decide) (Or.inl rfl) l3
            refine rs_goto (tg := 17) wi_389_78 ⟨by decide, by decide⟩ ?_
            exact h _ l0 l1 l2 l3 l4
      ·
        intro x25 h lv l0 l1 l2 l3
        obtain ⟨v27, e28, h⟩ := wp_lt h
        refine dl_inc wi_389_81 l3 rfl e28 (fun lv l3 t26 => ?_)
        have l0 := t26 _ _ (by decide) (Or.inl rfl) l0
        have l1 := t26 _ _ (by decide) (Or.inl rfl) l1
        have l2 := t26 _ _ (by decide) (Or.inl rfl) l2
        refine rs_goto (tg := 9) wi_389_84 ⟨by decide, by decide⟩ ?_
        exact h _ l0 l1 l2 l3
  ·
    intro x29 h lv l0 l1 l2
    refine rs_pure wi_389_87 rfl ?_
    refine rs_topi (v := 1) (by decide) ?_
    refine dl_istn wi_389_88 rfl (fun lv l3 t30 => ?_)
    have l0 := t30 _ _ (by decide) (Or.inl rfl) l0
    have l1 := t30 _ _ (by decide) (Or.inl rfl) l1
    have l2 := t30 _ _ (by decide) (Or.inl rfl) l2
    refine rs_pure wi_389_89 rfl ?_
    refine rs_topi (v := 0) (by decide) ?_
    refine dl_ist wi_389_90 rfl (fun lv l4 t31 => ?_)
    have l0 := t31 _ _ (by decide) (Or.inl rfl) l0
    have l1 := t31 _ _ (by decide) (Or.inl rfl) l1
    have l2 := t31 _ _ (by decide) (Or.inl rfl) l2
    have l3 := t31 _ _ (by decide) (Or.inl rfl) l3
    refine whl_ex (A := fun s32 : Int32 × Int32 × cS => ∀ lv, rx_ld lv 0 = some (.ref 174) → rx_ld lv 1 = some (.int a1) → rx_ld lv 2 = some (.int v3) → rx_ld lv 3 = some (.int s32.1) → rx_ld lv 4 = some (.int s32.2.1) → rs (rt_P sc fm) 389 F Lo 92 lv [] (hq false s32.2.2 y w) Q) (B := (fun x64 : Int32 × cS => ∀ lv, rx_ld lv 0 = some (.ref 174) → rx_ld lv 1 = some (.int a1) → rx_ld lv 2 = some (.int v3) → rx_ld lv 3 = some (.int x64.1) → rs (rt_P sc fm) 389 F Lo 256 lv [] (hq false x64.2 y w) Q)) ?_ ?_ _ _ (wp_bind h) _ l0 l1 l2 l3 l4
    · intro s32 h lv l0 l1 l2 l3 l4
      refine rs_ild wi_389_92 l4 ?_
      refine rs_ildn wi_389_94 l2 ?_
      refine rs_icge (tg := 256) wi_389_95 ⟨by decide, by decide⟩ (fun q => ?_) (fun q => ?_)
      ·
        have h := wp_pos h q
        exact h _ l0 l1 l2 l3
      ·
        have h := wp_neg h q
        refine rs_ildn wi_389_98 l3 ?_
        refine rs_ifeq (tg := 256) wi_389_99 ⟨by decide, by decide⟩ (fun q => ?_) (fun q => ?_)
        ·
          have h := wp_pos h q
          exact h _ l0 l1 l2 l3
        ·
          have h := wp_neg h q
          refine rs_pure wi_389_102 rfl ?_
          refine rs_topi (v := 0) (by decide) ?_
          refine dl_ist wi_389_103 rfl (fun lv l5 t33 => ?_)
          have l0 := t33 _ _ (by decide) (Or.inl rfl) l0
          have l1 := t33 _ _ (by decide) (Or.inl rfl) l1
          have l2 := t33 _ _ (by decide) (Or.inl rfl) l2
          have l3 := t33 _ _ (by decide) (Or.inl rfl) l3
          have l4 := t33 _ _ (by decide) (Or.inl rfl) l4
          refine whl_ex (A := fun s34 : Int32 × Int32 × cS => ∀ lv, rx_ld lv 0 = some (.ref 174) → rx_ld lv 1 = some (.int a1) → rx_ld lv 2 = some (.int v3) → rx_ld lv 3 = some (.int s34.1) → rx_ld lv 4 = some (.int s32.2.1) → rx_ld lv 5 = some (.int s34.2.1) → rs (rt_P sc fm) 389 F Lo 105 lv [] (hq false s34.2.2 y w) Q) (B := (fun x60 : Int32 × cS => ∀ lv, rx_ld lv 0 = some (.ref 174) → rx_ld lv 1 = some (.int a1) → rx_ld lv 2 = some (.int v3) → rx_ld lv 3 = some (.int x60.1) → rx_ld lv 4 = some (.int s32.2.1) → rs (rt_P sc fm) 389 F Lo 250 lv [] (hq false x60.2 y w) Q)) ?_ ?_ _ _ (wp_bind h) _ l0 l1 l2 l3 l4 l5
          · intro s34 h lv l0 l1 l2 l3 l4 l5
            refine rs_ild wi_389_105 l5 ?_
            refine rs_ildn wi_389_107 l2 ?_
            refine rs_icge (tg := 250) wi_389_108 ⟨by decide, by decide⟩ (fun q => ?_) (fun q => ?_)
            ·
              have h := wp_pos h q
              exact h _ l0 l1 l2 l3 l4
            ·
              have h := wp_neg h q
              refine rs_ildn wi_389_111 l3 ?_
              refine rs_ifeq (tg := 250) wi_389_112 ⟨by decide, by decide⟩ (fun q => ?_) (fun q => ?_)
              ·
                have h := wp_pos h q
                exact h _ l0 l1 l2 l3 l4
              ·
                have h := wp_neg h q
                refine rs_ild wi_389_115 l4 ?_
                refine rs_ild wi_389_117 l5 ?_
                refine wp_jn (B := fun p35 : Int32 => ∀ lv, rx_ld lv 0 = some (.ref 174) → rx_ld lv 1 = some (.int a1) → rx_ld lv 2 = some (.int v3) → rx_ld lv 4 = some (.int s32.2.1) → rx_ld lv 5 = some (.int s34.2.1) → rs (rt_P sc fm) 389 F Lo 151 lv [.int p35] (hq false s34.2.2 y w) Q) h (fun p35 h lv l0 l1 l2 l4 l5 => ?_) (fun j151 hj151 h => ?_)
                ·
                  refine dl_istn wi_389_151 rfl (fun lv l3 t36 => ?_)
                  have l0 := t36 _ _ (by decide) (Or.inl rfl) l0
                  have l1 := t36 _ _ (by decide) (Or.inl rfl) l1
                  have l2 := t36 _ _ (by decide) (Or.inl rfl) l2
                  have l4 := t36 _ _ (by decide) (Or.inl rfl) l4
                  have l5 := t36 _ _ (by decide) (Or.inl rfl) l5
                  refine rs_aldn wi_389_152 l0 ?_
                  refine dq_gr wi_389_153 wf_389_107 tf_174_20 ?_
                  refine rs_aldn wi_389_156 l0 ?_
                  refine rs_ildn wi_389_157 l1 ?_
                  refine rs_ild wi_389_158 l4 ?_
                  refine rs_ild wi_389_160 l5 ?_
                  refine rs_V wi_389_162 wc_389_524 rfl (dq_isa tf_174_0 wa_15_385) (Nat.le_trans (by decide) hF) (ml_le wm_385 (Nat.le_trans (by decide) hLo)) rfl (sp_385 (Nat.le_trans (by decide : 0 ≤ 3 - 1) (Nat.sub_le_sub_right hF 1)) (ml_sub wm_385 (Nat.le_trans (by decide : 0 ≤ 75 - 23) (Nat.sub_le_sub_right hLo 23))) (wp_bind h) (fun v37 h => rs_back1 ?_))
                  refine rs_aldn wi_389_165 l0 ?_
                  refine rs_ildn wi_389_166 l1 ?_
                  refine rs_ild wi_389_167 l4 ?_
                  refine rs_ild wi_389_169 l5 ?_
                  refine rs_pure wi_389_171 rfl ?_
                  refine rs_topi (v := 0) (by decide) ?_
                  refine rs_V wi_389_172 wc_389_539 rfl (dq_isa tf_174_0 wa_15_388) (Nat.le_trans (by decide) hF) (ml_le wm_388 (Nat.le_trans (by decide) hLo)) rfl (sp_388 hw (Nat.le_trans (by decide : 2 ≤ 3 - 1) (Nat.sub_le_sub_right hF 1)) (ml_sub wm_388 (Nat.le_trans (by decide : 46 ≤ 75 - 29) (Nat.sub_le_sub_right hLo 29))) (wp_bind h) (fun v38 h => rs_back1 ?_))
                  obtain ⟨g39, h⟩ := wp_gd h
                  obtain ⟨c40, e41, h⟩ := wp_lt h
                  refine dq_iast wi_389_175 t_185 g39 e41 ?_
                  refine rs_aldn wi_389_176 l0 ?_
                  refine dq_gr wi_389_177 wf_389_110 tf_174_21 ?_
                  refine rs_aldn wi_389_180 l0 ?_
                  refine rs_ildn wi_389_181 l1 ?_
                  refine rs_ild wi_389_182 l4 ?_
                  refine rs_ild wi_389_184 l5 ?_
                  refine rs_V wi_389_186 wc_389_524 rfl (dq_isa tf_174_0 wa_15_385) (Nat.le_trans (by decide) hF) (ml_le wm_385 (Nat.le_trans (by decide) hLo)) rfl (sp_385 (Nat.le_trans (by decide : 0 ≤ 3 - 1) (Nat.sub_le_sub_right hF 1)) (ml_sub wm_385 (Nat.le_trans (by decide : 0 ≤ 75 - 23) (Nat.sub_le_sub_right hLo 23))) (wp_bind h) (fun v42 h => rs_back1 ?_))
                  refine rs_aldn wi_389_189 l0 ?_
                  refine rs_ildn wi_389_190 l1 ?_
                  refine rs_ild wi_389_191 l4 ?_
                  refine rs_ild wi_389_193 l5 ?_
                  refine rs_pure wi_389_195 rfl ?_
                  refine rs_topi (v := 1) (by decide) ?_
                  refine rs_V wi_389_196 wc_389_539 rfl (dq_isa tf_174_0 wa_15_388) (Nat.le_trans (by decide) hF) (ml_le wm_388 (Nat.le_trans (by decide) hLo)) rfl (sp_388 hw (Nat.le_trans (by decide : 2 ≤ 3 - 1) (Nat.sub_le_sub_right hF 1)) (ml_sub wm_388 (Nat.le_trans (by decide : 46 ≤ 75 - 29) (Nat.sub_le_sub_right hLo 29))) (wp_bind h) (fun v43 h => rs_back1 ?_))
                  obtain ⟨g44, h⟩ := wp_gd h
                  obtain ⟨c45, e46, h⟩ := wp_lt h
                  refine dq_iast wi_389_199 t_186 g44 e46 ?_
                  refine rs_ildn wi_389_200 l3 ?_
                  refine wp_jn (B := fun p47 : Int32 => ∀ lv, rx_ld lv 0 = some (.ref 174) → rx_ld lv 1 = some (.int a1) → rx_ld lv 2 = some (.int v3) → rx_ld lv 4 = some (.int s32.2.1) → rx_ld lv 5 = some (.int s34.2.1) → rs (rt_P sc fm) 389 F Lo 243 lv [.int p47] (hq false c45 y w) Q) h (fun p47 h lv l0 l1 l2 l4 l5 => ?_) (fun j243 hj243 h => ?_)
                  ·
                    refine dl_istn wi_389_243 rfl (fun lv l3 t48 => ?_)
                    have l0 := t48 _ _ (by decide) (Or.inl rfl) l0
                    have l1 := t48 _ _ (by decide) (Or.inl rfl) l1
                    have l2 := t48 _ _ (by decide) (Or.inl rfl) l2
                    have l4 := t48 _ _ (by decide) (Or.inl rfl) l4
                    have l5 := t48 _ _ (by decide) (Or.inl rfl) l5
                    obtain ⟨v50, e51, h⟩ := wp_lt h
                    refine dl_inc wi_389_244 l5 rfl e51 (fun lv l5 t49 => ?_)
                    have l0 := t49 _ _ (by decide) (Or.inl rfl) l0
                    have l1 := t49 _ _ (by decide) (Or.inl rfl) l1
                    have l2 := t49 _ _ (by decide) (Or.inl rfl) l2
                    have l3 := t49 _ _ (by decide) (Or.inl rfl) l3
                    have l4 := t49 _ _ (by decide) (Or.inl rfl) l4
                    refine rs_goto (tg := 105) wi_389_247 ⟨by decide, by decide⟩ ?_
                    exact h _ l0 l1 l2 l3 l4 l5
                  refine wp_jn (B := fun p52 : Unit => ∀ lv, rx_ld lv 0 = some (.ref 174) → rx_ld lv 1 = some (.int a1) → rx_ld lv 2 = some (.int v3) → rx_ld lv 4 = some (.int s32.2.1) → rx_ld lv 5 = some (.int s34.2.1) → rs (rt_P sc fm) 389 F Lo 242 lv [] (hq false c45 y w) Q) h (fun p52 h lv l0 l1 l2 l4 l5 => ?_) (fun j242 hj242 h => ?_)
                  ·
                    refine rs_pure wi_389_242 rfl ?_
                    refine rs_topi (v := 0) (by decide) ?_
                    exact hj243 _ h _ l0 l1 l2 l4 l5
                  refine rs_ifeq (tg := 242) wi_389_201 ⟨by decide, by decide⟩ (fun q => ?_) (fun q => ?_)
                  ·
                    have h := wp_pos h q
                    exact hj242 _ h _ l0 l1 l2 l4 l5
                  ·
                    have h := wp_neg h q
                    refine rs_aldn wi_389_204 l0 ?_
                    refine dq_gr wi_389_205 wf_389_107 tf_174_20 ?_
                    refine rs_aldn wi_389_208 l0 ?_
                    refine rs_ildn wi_389_209 l1 ?_
                    refine rs_ild wi_389_210 l4 ?_
                    refine rs_ild wi_389_212 l5 ?_
                    refine rs_V wi_389_214 wc_389_524 rfl (dq_isa tf_174_0 wa_15_385) (Nat.le_trans (by decide) hF) (ml_le wm_385 (Nat.le_trans (by decide) hLo)) rfl (sp_385 (Nat.le_trans (by decide : 0 ≤ 3 - 1) (Nat.sub_le_sub_right hF 1)) (ml_sub wm_385 (Nat.le_trans (by decide : 0 ≤ 75 - 23) (Nat.sub_le_sub_right hLo 23))) (wp_bind h) (fun v53 h => rs_back1 ?_))
                    obtain ⟨g54, h⟩ := wp_gd h
                    refine dq_iald wi_389_217 t_185 g54 ?_
                    refine rs_iflt (tg := 242) wi_389_218 ⟨by decide, by decide⟩ (fun q => ?_) (fun q => ?_)
                    ·
                      have h := wp_pos h q
                      exact hj242 _ h _ l0 l1 l2 l4 l5
                    ·
                      have h := wp_neg h q
                      refine rs_aldn wi_389_221 l0 ?_
                      refine dq_gr wi_389_222 wf_389_110 tf_174_21 ?_
                      refine rs_aldn wi_389_225 l0 ?_
                      refine rs_ildn wi_389_226 l1 ?_
                      refine rs_ild wi_389_227 l4 ?_
                      refine rs_ild wi_389_229 l5 ?_
                      refine rs_V wi_389_231 wc_389_524 rfl (dq_isa tf_174_0 wa_15_385) (Nat.le_trans (by decide) hF) (ml_le wm_385 (Nat.le_trans (by decide) hLo)) rfl (sp_385 (Nat.le_trans (by decide : 0 ≤ 3 - 1) (Nat.sub_le_sub_right hF 1)) (ml_sub wm_385 (Nat.le_trans (by decide : 0 ≤ 75 - 23) (Nat.sub_le_sub_right hLo 23))) (wp_bind h) (fun v55 h => rs_back1 ?_))
                      obtain ⟨g56, h⟩ := wp_gd h
                      refine dq_iald wi_389_234 t_186 g56 ?_
                      refine rs_iflt (tg := 242) wi_389_235 ⟨by decide, by decide⟩ (fun q => ?_) (fun q => ?_)
                      ·
                        have h := wp_pos h q
                        exact hj242 _ h _ l0 l1 l2 l4 l5
                      ·
                        have h := wp_neg h q
                        refine rs_pure wi_389_238 rfl ?_
                        refine rs_topi (v := 1) (by decide) ?_
                        refine rs_goto (tg := 243) wi_389_239 ⟨by decide, by decide⟩ ?_
                        exact hj243 _ h _ l0 l1 l2 l4 l5
                refine wp_jn (B := fun p57 : Unit => ∀ lv, rx_ld lv 0 = some (.ref 174) → rx_ld lv 1 = some (.int a1) → rx_ld lv 2 = some (.int v3) → rx_ld lv 4 = some (.int s32.2.1) → rx_ld lv 5 = some (.int s34.2.1) → rs (rt_P sc fm) 389 F Lo 146 lv [] (hq false s34.2.2 y w) Q) h (fun p57 h lv l0 l1 l2 l4 l5 => ?_) (fun j146 hj146 h => ?_)
                ·
                  refine rs_pure wi_389_146 rfl ?_
                  refine rs_topi (v := 1) (by decide) ?_
                  refine rs_goto (tg := 151) wi_389_147 ⟨by decide, by decide⟩ ?_
                  exact hj151 _ h _ l0 l1 l2 l4 l5
                refine rs_iceq (tg := 146) wi_389_119 ⟨by decide, by decide⟩ (fun q => ?_) (fun q => ?_)
                ·
                  have h := wp_pos h q
                  exact hj146 _ h _ l0 l1 l2 l4 l5
                ·
                  have h := wp_neg h q
                  refine rs_aldn wi_389_122 l0 ?_
                  refine rs_ildn wi_389_123 l1 ?_
                  refine rs_ild wi_389_124 l4 ?_
                  refine rs_ild wi_389_126 l5 ?_
                  refine rs_V wi_389_128 wc_389_535 rfl (dq_isa tf_174_0 wa_15_387) (Nat.le_trans (by decide) hF) (ml_le wm_387 (Nat.le_trans (by decide) hLo)) rfl (sp_387 hw (Nat.le_trans (by decide : 1 ≤ 3 - 1) (Nat.sub_le_sub_right hF 1)) (ml_sub wm_387 (Nat.le_trans (by decide : 23 ≤ 75 - 23) (Nat.sub_le_sub_right hLo 23))) (wp_bind h) (fun v58 h => rs_back1 ?_))
                  refine rs_ifeq (tg := 146) wi_389_131 ⟨by decide, by decide⟩ (fun q => ?_) (fun q => ?_)
                  ·
                    have h := wp_pos h q
                    exact hj146 _ h _ l0 l1 l2 l4 l5
                  ·
                    have h := wp_neg h q
                    refine rs_aldn wi_389_134 l0 ?_
                    refine rs_ildn wi_389_135 l1 ?_
                    refine rs_ild wi_389_136 l5 ?_
                    refine rs_ild wi_389_138 l4 ?_
                    refine rs_V wi_389_140 wc_389_535 rfl (dq_isa tf_174_0 wa_15_387) (Nat.le_trans (by decide) hF) (ml_le wm_387 (Nat.le_trans (by decide) hLo)) rfl (sp_387 hw (Nat.le_trans (by decide : 1 ≤ 3 - 1) (Nat.sub_le_sub_right hF 1)) (ml_sub wm_387 (Nat.le_trans (by decide : 23 ≤ 75 - 23) (Nat.sub_le_sub_right hLo 23))) (wp_bind h) (fun v59 h => rs_back1 ?_))
                    refine rs_ifne (tg := 150) wi_389_143 ⟨by decide, by decide⟩ (fun q => ?_) (fun q => ?_)
                    ·
                      have h := wp_neg h q
                      refine rs_pure wi_389_150 rfl ?_
                      refine rs_topi (v := 0) (by decide) ?_
                      exact hj151 _ h _ l0 l1 l2 l4 l5
                    ·
                      have h := wp_pos h q
                      exact hj146 _ h _ l0 l1 l2 l4 l5
          ·
            intro x60 h lv l0 l1 l2 l3 l4
            obtain ⟨v62, e63, h⟩ := wp_lt h
            refine dl_inc wi_389_250 l4 rfl e63 (fun lv l4 t61 => ?_)
            have l0 := t61 _ _ (by decide) (Or.inl rfl) l0
            have l1 := t61 _ _ (by decide) (Or.inl rfl) l1
            have l2 := t61 _ _ (by decide) (Or.inl rfl) l2
            have l3 := t61 _ _ (by decide) (Or.inl rfl) l3
            refine rs_goto (tg := 92) wi_389_253 ⟨by decide, by decide⟩ ?_
            exact h _ l0 l1 l2 l3 l4
    ·
      intro x64 h lv l0 l1 l2 l3
      refine rs_pure wi_389_256 rfl ?_
      refine rs_topi (v := 0) (by decide) ?_
      refine dl_ist wi_389_257 rfl (fun lv l4 t65 => ?_)
      have l0 := t65 _ _ (by decide) (Or.inl rfl) l0
      have l1 := t65 _ _ (by decide) (Or.inl rfl) l1
      have l2 := t65 _ _ (by decide) (Or.inl rfl) l2
      have l3 := t65 _ _ (by decide) (Or.inl rfl) l3
      refine whl_ex (A := fun s66 : Int32 × cS => ∀ lv, rx_ld lv 0 = some (.ref 174) → rx_ld lv 1 = some (.int a1) → rx_ld lv 2 = some (.int v3) → rx_ld lv 3 = some (.int x64.1) → rx_ld lv 4 = some (.int s66.1) → rs (rt_P sc fm) 389 F Lo 259 lv [] (hq false s66.2 y w) Q) (B := (fun x94 : cS => ∀ lv, rx_ld lv 3 = some (.int x64.1) → rs (rt_P sc fm) 389 F Lo 366 lv [] (hq false x94 y w) Q)) ?_ ?_ _ _ (wp_bind h) _ l0 l1 l2 l3 l4
      · intro s66 h lv l0 l1 l2 l3 l4
        refine rs_ild wi_389_259 l4 ?_
        refine rs_ildn wi_389_261 l2 ?_
        refine rs_icge (tg := 366) wi_389_262 ⟨by decide, by decide⟩ (fun q => ?_) (fun q => ?_)
        ·
          have h := wp_pos h q
          exact h _ l3
        ·
          have h := wp_neg h q
          refine rs_pure wi_389_265 rfl ?_
          refine rs_topi (v := 1) (by decide) ?_
          refine dl_ist wi_389_266 rfl (fun lv l5 t67 => ?_)
          have l0 := t67 _ _ (by decide) (Or.inl rfl) l0
          have l1 := t67 _ _ (by decide) (Or.inl rfl) l1
          have l2 := t67 _ _ (by decide) (Or.inl rfl) l2
          have l3 := t67 _ _ (by decide) (Or.inl rfl) l3
          have l4 := t67 _ _ (by decide) (Or.inl rfl) l4
          refine rs_pure wi_389_268 rfl ?_
          refine rs_topi (v := 1) (by decide) ?_
          refine dl_ist wi_389_269 rfl (fun lv l6 t68 => ?_)
          have l0 := t68 _ _ (by decide) (Or.inl rfl) l0
          have l1 := t68 _ _ (by decide) (Or.inl rfl) l1
          have l2 := t68 _ _ (by decide) (Or.inl rfl) l2
          have l3 := t68 _ _ (by decide) (Or.inl rfl) l3
          have l4 := t68 _ _ (by decide) (Or.inl rfl) l4
          have l5 := t68 _ _ (by decide) (Or.inl rfl) l5
          refine rs_pure wi_389_271 rfl ?_
          refine rs_topi (v := 0) (by decide) ?_
          refine dl_ist wi_389_272 rfl (fun lv l7 t69 => ?_)
          have l0 := t69 _ _ (by decide) (Or.inl rfl) l0
          have l1 := t69 _ _ (by decide) (Or.inl rfl) l1
          have l2 := t69 _ _ (by decide) (Or.inl rfl) l2
          have l3 := t69 _ _ (by decide) (Or.inl rfl) l3
          have l4 := t69 _ _ (by decide) (Or.inl rfl) l4
          have l5 := t69 _ _ (by decide) (Or.inl rfl) l5
          have l6 := t69 _ _ (by decide) (Or.inl rfl) l6
          refine whl_ex (A := fun s70 : Int32 × Int32 × Int32 => ∀ lv, rx_ld lv 0 = some (.ref 174) → rx_ld lv 1 = some (.int a1) → rx_ld lv 2 = some (.int v3) → rx_ld lv 3 = some (.int x64.1) → rx_ld lv 4 = some (.int s66.1) → rx_ld lv 5 = some (.int s70.1) → rx_ld lv 6 = some (.int s70.2.1) → rx_ld lv 7 = some (.int s70.2.2) → rs (rt_P sc fm) 389 F Lo 274 lv [] (hq false s66.2 y w) Q) (B := (fun x82 : Int32 × Int32 => ∀ lv, rx_ld lv 0 = some (.ref 174) → rx_ld lv 1 = some (.int a1) → rx_ld lv 2 = some (.int v3) → rx_ld lv 3 = some (.int x64.1) → rx_ld lv 4 = some (.int s66.1) → rx_ld lv 5 = some (.int x82.1) → rx_ld lv 6 = some (.int x82.2) → rs (rt_P sc fm) 389 F Lo 334 lv [] (hq false s66.2 y w) Q)) ?_ ?_ _ _ (wp_bind h) _ l0 l1 l2 l3 l4 l5 l6 l7
          · intro s70 h lv l0 l1 l2 l3 l4 l5 l6 l7
            refine rs_ild wi_389_274 l7 ?_
            refine rs_ildn wi_389_276 l2 ?_
            refine rs_icge (tg := 334) wi_389_277 ⟨by decide, by decide⟩ (fun q => ?_) (fun q => ?_)
            ·
              have h := wp_pos h q
              exact h _ l0 l1 l2 l3 l4 l5 l6
            ·
              have h := wp_neg h q
              refine rs_ild wi_389_280 l5 ?_
              refine wp_jn (B := fun p71 : Int32 => ∀ lv, rx_ld lv 0 = some (.ref 174) → rx_ld lv 1 = some (.int a1) → rx_ld lv 2 = some (.int v3) → rx_ld lv 3 = some (.int x64.1) → rx_ld lv 4 = some (.int s66.1) → rx_ld lv 6 = some (.int s70.2.1) → rx_ld lv 7 = some (.int s70.2.2) → rs (rt_P sc fm) 389 F Lo 302 lv [.int p71] (hq false s66.2 y w) Q) h (fun p71 h lv l0 l1 l2 l3 l4 l6 l7 => ?_) (fun j302 hj302 h => ?_)
              ·
                refine dl_ist wi_389_302 rfl (fun lv l5 t72 => ?_)
                have l0 := t72 _ _ (by decide) (Or.inl rfl) l0
                have l1 := t72 _ _ (by decide) (Or.inl rfl) l1
                have l2 := t72 _ _ (by decide) (Or.inl rfl) l2
                have l3 := t72 _ _ (by decide) (Or.inl rfl) l3
                have l4 := t72 _ _ (by decide) (Or.inl rfl) l4
                have l6 := t72 _ _ (by decide) (Or.inl rfl) l6
                have l7 := t72 _ _ (by decide) (Or.inl rfl) l7
                refine rs_ild wi_389_304 l6 ?_
                refine wp_jn (B := fun p73 : Int32 => ∀ lv, rx_ld lv 0 = some (.ref 174) → rx_ld lv 1 = some (.int a1) → rx_ld lv 2 = some (.int v3) → rx_ld lv 3 = some (.int x64.1) → rx_ld lv 4 = some (.int s66.1) → rx_ld lv 5 = some (.int p71) → rx_ld lv 7 = some (.int s70.2.2) → rs (rt_P sc fm) 389 F Lo 326 lv [.int p73] (hq false s66.2 y w) Q) h (fun p73 h lv l0 l1 l2 l3 l4 l5 l7 => ?_) (fun j326 hj326 h => ?_)
                ·
                  refine dl_ist wi_389_326 rfl (fun lv l6 t74 => ?_)
                  have l0 := t74 _ _ (by decide) (Or.inl rfl) l0
                  have l1 := t74 _ _ (by decide) (Or.inl rfl) l1
                  have l2 := t74 _ _ (by decide) (Or.inl rfl) l2
                  have l3 := t74 _ _ (by decide) (Or.inl rfl) l3
                  have l4 := t74 _ _ (by decide) (Or.inl rfl) l4
                  have l5 := t74 _ _ (by decide) (Or.inl rfl) l5
                  have l7 := t74 _ _ (by decide) (Or.inl rfl) l7
                  obtain ⟨v76, e77, h⟩ := wp_lt h
                  refine dl_inc wi_389_328 l7 rfl e77 (fun lv l7 t75 => ?_)
                  have l0 := t75 _ _ (by decide) (Or.inl rfl) l0
                  have l1 := t75 _ _ (by decide) (Or.inl rfl) l1
                  have l2 := t75 _ _ (by decide) (Or.inl rfl) l2
                  have l3 := t75 _ _ (by decide) (Or.inl rfl) l3
                  have l4 := t75 _ _ (by decide) (Or.inl rfl) l4
                  have l5 := t75 _ _ (by decide) (Or.inl rfl) l5
                  have l6 := t75 _ _ (by decide) (Or.inl rfl) l6
                  refine rs_goto (tg := 274) wi_389_331 ⟨by decide, by decide⟩ ?_
                  exact h _ l0 l1 l2 l3 l4 l5 l6 l7
                refine wp_jn (B := fun p78 : Unit => ∀ lv, rx_ld lv 0 = some (.ref 174) → rx_ld lv 1 = some (.int a1) → rx_ld lv 2 = some (.int v3) → rx_ld lv 3 = some (.int x64.1) → rx_ld lv 4 = some (.int s66.1) → rx_ld lv 5 = some (.int p71) → rx_ld lv 7 = some (.int s70.2.2) → rs (rt_P sc fm) 389 F Lo 325 lv [] (hq false s66.2 y w) Q) h (fun p78 h lv l0 l1 l2 l3 l4 l5 l7 => ?_) (fun j325 hj325 h => ?_)
                ·
                  refine rs_pure wi_389_325 rfl ?_
                  refine rs_topi (v := 0) (by decide) ?_
                  exact hj326 _ h _ l0 l1 l2 l3 l4 l5 l7
                refine rs_ifeq (tg := 325) wi_389_306 ⟨by decide, by decide⟩ (fun q => ?_) (fun q => ?_)
                ·
                  have h := wp_pos h q
                  exact hj325 _ h _ l0 l1 l2 l3 l4 l5 l7
                ·
                  have h := wp_neg h q
                  refine rs_aldn wi_389_309 l0 ?_
                  refine rs_ildn wi_389_310 l1 ?_
                  refine rs_ild wi_389_311 l4 ?_
                  refine rs_ild wi_389_313 l7 ?_
                  refine rs_V wi_389_315 wc_389_535 rfl (dq_isa tf_174_0 wa_15_387) (Nat.le_trans (by decide) hF) (ml_le wm_387 (Nat.le_trans (by decide) hLo)) rfl (sp_387 hw (Nat.le_trans (by decide : 1 ≤ 3 - 1) (Nat.sub_le_sub_right hF 1)) (ml_sub wm_387 (Nat.le_trans (by decide : 23 ≤ 75 - 23) (Nat.sub_le_sub_right hLo 23))) (wp_bind h) (fun v79 h => rs_back1 ?_))
                  refine rs_ifeq (tg := 325) wi_389_318 ⟨by decide, by decide⟩ (fun q => ?_) (fun q => ?_)
                  ·
                    have h := wp_pos h q
                    exact hj325 _ h _ l0 l1 l2 l3 l4 l5 l7
                  ·
                    have h := wp_neg h q
                    refine rs_pure wi_389_321 rfl ?_
                    refine rs_topi (v := 1) (by decide) ?_
                    refine rs_goto (tg := 326) wi_389_322 ⟨by decide, by decide⟩ ?_
                    exact hj326 _ h _ l0 l1 l2 l3 l4 l5 l7
              refine wp_jn (B := fun p80 : Unit => ∀ lv, rx_ld lv 0 = some (.ref 174) → rx_ld lv 1 = some (.int a1) → rx_ld lv 2 = some (.int v3) → rx_ld lv 3 = some (.int x64.1) → rx_ld lv 4 = some (.int s66.1) → rx_ld lv 6 = some (.int s70.2.1) → rx_ld lv 7 = some (.int s70.2.2) → rs (rt_P sc fm) 389 F Lo 301 lv [] (hq false s66.2 y w) Q) h (fun p80 h lv l0 l1 l2 l3 l4 l6 l7 => ?_) (fun j301 hj301 h => ?_)
              ·
                refine rs_pure wi_389_301 rfl ?_
                refine rs_topi (v := 0) (by decide) ?_
                exact hj302 _ h _ l0 l1 l2 l3 l4 l6 l7
              refine rs_ifeq (tg := 301) wi_389_282 ⟨by decide, by decide⟩ (fun q => ?_) (fun q => ?_)
              ·
                have h := wp_pos h q
                exact hj301 _ h _ l0 l1 l2 l3 l4 l6 l7
              ·
                have h := wp_neg h q
                refine rs_aldn wi_389_285 l0 ?_
                refine rs_ildn wi_389_286 l1 ?_
                refine rs_ild wi_389_287 l7 ?_
                refine rs_ild wi_389_289 l4 ?_
                refine rs_V wi_389_291 wc_389_535 rfl (dq_isa tf_174_0 wa_15_387) (Nat.le_trans (by decide) hF) (ml_le wm_387 (Nat.le_trans (by decide) hLo)) rfl (sp_387 hw (Nat.le_trans (by decide : 1 ≤ 3 - 1) (Nat.sub_le_sub_right hF 1)) (ml_sub wm_387 (Nat.le_trans (by decide : 23 ≤ 75 - 23) (Nat.sub_le_sub_right hLo 23))) (wp_bind h) (fun v81 h => rs_back1 ?_))
                refine rs_ifeq (tg := 301) wi_389_294 ⟨by decide, by decide⟩ (fun q => ?_) (fun q => ?_)
                ·
                  have h := wp_pos h q
                  exact hj301 _ h _ l0 l1 l2 l3 l4 l6 l7
                ·
                  have h := wp_neg h q
                  refine rs_pure wi_389_297 rfl ?_
                  refine rs_topi (v := 1) (by decide) ?_
                  refine rs_goto (tg := 302) wi_389_298 ⟨by decide, by decide⟩ ?_
                  exact hj302 _ h _ l0 l1 l2 l3 l4 l6 l7
          ·
            intro x82 h lv l0 l1 l2 l3 l4 l5 l6
            refine rs_ild wi_389_334 l5 ?_
            refine wp_jn (B := fun p83 : cS => ∀ lv, rx_ld lv 0 = some (.ref 174) → rx_ld lv 1 = some (.int a1) → rx_ld lv 2 = some (.int v3) → rx_ld lv 3 = some (.int x64.1) → rx_ld lv 4 = some (.int s66.1) → rx_ld lv 6 = some (.int x82.2) → rs (rt_P sc fm) 389 F Lo 347 lv [] (hq false p83 y w) Q) h (fun p83 h lv l0 l1 l2 l3 l4 l6 => ?_) (fun j347 hj347 h => ?_)
            ·
              refine rs_ild wi_389_347 l6 ?_
              refine wp_jn (B := fun p84 : cS => ∀ lv, rx_ld lv 0 = some (.ref 174) → rx_ld lv 1 = some (.int a1) → rx_ld lv 2 = some (.int v3) → rx_ld lv 3 = some (.int x64.1) → rx_ld lv 4 = some (.int s66.1) → rs (rt_P sc fm) 389 F Lo 360 lv [] (hq false p84 y w) Q) h (fun p84 h lv l0 l1 l2 l3 l4 => ?_) (fun j360 hj360 h => ?_)
              ·
                obtain ⟨v86, e87, h⟩ := wp_lt h
                refine dl_inc wi_389_360 l4 rfl e87 (fun lv l4 t85 => ?_)
                have l0 := t85 _ _ (by decide) (Or.inl rfl) l0
                have l1 := t85 _ _ (by decide) (Or.inl rfl) l1
                have l2 := t85 _ _ (by decide) (Or.inl rfl) l2
                have l3 := t85 _ _ (by decide) (Or.inl rfl) l3
                refine rs_goto (tg := 259) wi_389_363 ⟨by decide, by decide⟩ ?_
                exact h _ l0 l1 l2 l3 l4
              refine rs_ifeq (tg := 360) wi_389_349 ⟨by decide, by decide⟩ (fun q => ?_) (fun q => ?_)
              ·
                have h := wp_pos h q
                exact hj360 _ h _ l0 l1 l2 l3 l4
              ·
                have h := wp_neg h q
                refine rs_aldn wi_389_352 l0 ?_
                refine dq_gr wi_389_353 wf_389_116 tf_174_23 ?_
                refine rs_ildn wi_389_356 l1 ?_
                refine rs_ild wi_389_357 l4 ?_
                obtain ⟨g88, h⟩ := wp_gd h
                obtain ⟨c89, e90, h⟩ := wp_lt h
                refine dq_iast wi_389_359 t_188 g88 e90 ?_
                exact hj360 _ h _ l0 l1 l2 l3 l4
            refine rs_ifeq (tg := 347) wi_389_336 ⟨by decide, by decide⟩ (fun q => ?_) (fun q => ?_)
            ·
              have h := wp_pos h q
              exact hj347 _ h _ l0 l1 l2 l3 l4 l6
            ·
              have h := wp_neg h q
              refine rs_aldn wi_389_339 l0 ?_
              refine dq_gr wi_389_340 wf_389_113 tf_174_22 ?_
              refine rs_ildn wi_389_343 l1 ?_
              refine rs_ild wi_389_344 l4 ?_
              obtain ⟨g91, h⟩ := wp_gd h
              obtain ⟨c92, e93, h⟩ := wp_lt h
              refine dq_iast wi_389_346 t_187 g91 e93 ?_
              exact hj347 _ h _ l0 l1 l2 l3 l4 l6
      ·
        intro x94 h lv l3
        refine rs_ildn wi_389_366 l3 ?_
        obtain ⟨g95, h⟩ := wp_gd h
        exact rs_iret wi_389_367 wr_389 (nb_n g95) (hQ (x64.1, x94) h)
theorem wa_15_379 : rz_cn 15 (rx_yn (rt_P sc fm) 379).cls = true := (by decide +kernel : rz_cn 15 (rt_yn 379).cls = true)
theorem wa_15_380 : rz_cn 15 (rx_yn (rt_P sc fm) 380).cls = true := (by decide +kernel : rz_cn 15 (rt_yn 380).cls = true)
theorem wa_15_383 : rz_cn 15 (rx_yn (rt_P sc fm) 383).cls = true := (by decide +kernel : rz_cn 15 (rt_yn 383).cls = true)
theorem wa_15_384 : rz_cn 15 (rx_yn (rt_P sc fm) 384).cls = true := (by decide +kernel : rz_cn 15 (rt_yn 384).cls = true)
theorem wa_15_389 : rz_cn 15 (rx_yn (rt_P sc fm) 389).cls = true := (by decide +kernel : rz_cn 15 (rt_yn 389).cls = true)
theorem wc_386_432 : rx_ct (rt_P sc fm) 386 432 = some (0, 97, 2) := (by decide +kernel : rt_ct 386 432 = some (0, 97, 2))
theorem wc_386_477 : rx_ct (rt_P sc fm) 386 477 = some (0, 101, 1) := (by decide +kernel : rt_ct 386 477 = some (0, 101, 1))
theorem wc_386_480 : rx_ct (rt_P sc fm) 386 480 = some (0, 103, 0) := (by decide +kernel : rt_ct 386 480 = some (0, 103, 0))
theorem wc_386_483 : rx_ct (rt_P sc fm) 386 483 = some (0, 379, 1) := (by decide +kernel : rt_ct 386 483 = some (0, 379, 1))
theorem wc_386_517 : rx_ct (rt_P sc fm) 386 517 = some (0, 383, 2) := (by decide +kernel : rt_ct 386 517 = some (0, 383, 2))
theorem wc_386_521 : rx_ct (rt_P sc fm) 386 521 = some (0, 380, 1) := (by decide +kernel : rt_ct 386 521 = some (0, 380, 1))
theorem wc_386_524 : rx_ct (rt_P sc fm) 386 524 = some (0, 385, 3) := (by decide +kernel : rt_ct 386 524 = some (0, 385, 3))
theorem wc_386_528 : rx_ct (rt_P sc fm) 386 528 = some (0, 384, 1) := (by decide +kernel : rt_ct 386 528 = some (0, 384, 1))
theorem wc_386_532 : rx_ct (rt_P sc fm) 386 532 = some (0, 389, 1) := (by decide +kernel : rt_ct 386 532 = some (0, 389, 1))
theorem wf_386_103 : rx_ft (rt_P sc fm) 386 103 = some (15, 19) := (by decide +kernel : rt_ft 386 103 = some (15, 19))
theorem wf_386_409 : rx_ft (rt_P sc fm) 386 409 = some (15, 13) := (by decide +kernel : rt_ft 386 409 = some (15, 13))
theorem wf_386_447 : rx_ft (rt_P sc fm) 386 447 = some (15, 15) := (by decide +kernel : rt_ft 386 447 = some (15, 15))
theorem wf_386_471 : rx_ft (rt_P sc fm) 386 471 = some (15, 67) := (by decide +kernel : rt_ft 386 471 = some (15, 67))
theorem wf_386_87 : rx_ft (rt_P sc fm) 386 87 = some (15, 9) := (by decide +kernel : rt_ft 386 87 = some (15, 9))
theorem wf_386_94 : rx_ft (rt_P sc fm) 386 94 = some (15, 16) := (by decide +kernel : rt_ft 386 94 = some (15, 16))
theorem wf_386_97 : rx_ft (rt_P sc fm) 386 97 = some (15, 17) := (by decide +kernel : rt_ft 386 97 = some (15, 17))
theorem wi_386_0 : ri (rt_P sc fm) 386 0 (.aload_n 0) (1) := ri_of (by decide +kernel) rfl
theorem wi_386_1 : ri (rt_P sc fm) 386 1 (.getfield 471) (4) := ri_of (by decide +kernel) rfl
theorem wi_386_10 : ri (rt_P sc fm) 386 10 (.iconst 4) (11) := ri_of (by decide +kernel) rfl
theorem wi_386_102 : ri (rt_P sc fm) 386 102 (.iconst 1) (103) := ri_of (by decide +kernel) rfl
theorem wi_386_103 : ri (rt_P sc fm) 386 103 (.istore 5) (105) := ri_of (by decide +kernel) rfl
theorem wi_386_105 : ri (rt_P sc fm) 386 105 (.iload 5) (107) := ri_of (by decide +kernel) rfl
theorem wi_386_107 : ri (rt_P sc fm) 386 107 (.ifCond .eq 69) (110) := ri_of (by decide +kernel) rfl
theorem wi_386_11 : ri (rt_P sc fm) 386 11 (.invokevirtual 517) (14) := ri_of (by decide +kernel) rfl
theorem wi_386_110 : ri (rt_P sc fm) 386 110 (.aload_n 0) (111) := ri_of (by decide +kernel) rfl
theorem wi_386_111 : ri (rt_P sc fm) 386 111 (.getfield 409) (114) := ri_of (by decide +kernel) rfl
theorem wi_386_114 : ri (rt_P sc fm) 386 114 (.ifCond .ne 62) (117) := ri_of (by decide +kernel) rfl
theorem wi_386_117 : ri (rt_P sc fm) 386 117 (.aload_n 0) (118) := ri_of (by decide +kernel) rfl
theorem wi_386_118 : ri (rt_P sc fm) 386 118 (.iload 4) (120) := ri_of (by decide +kernel) rfl
theorem wi_386_120 : ri (rt_P sc fm) 386 120 (.invokevirtual 528) (123) := ri_of (by decide +kernel) rfl
theorem wi_386_123 : ri (rt_P sc fm) 386 123 (.istore 6) (125) := ri_of (by decide +kernel) rfl
theorem wi_386_125 : ri (rt_P sc fm) 386 125 (.aload_n 0) (126) := ri_of (by decide +kernel) rfl
theorem wi_386_126 : ri (rt_P sc fm) 386 126 (.bipush 60) (128) := ri_of (by decide +kernel) rfl
theorem wi_386_128 : ri (rt_P sc fm) 386 128 (.invokevirtual 483) (131) := ri_of (by decide +kernel) rfl
theorem wi_386_131 : ri (rt_P sc fm) 386 131 (.ifCond .eq 34) (134) := ri_of (by decide +kernel) rfl
theorem wi_386_134 : ri (rt_P sc fm) 386 134 (.aload_n 0) (135) := ri_of (by decide +kernel) rfl
theorem wi_386_135 : ri (rt_P sc fm) 386 135 (.iload 4) (137) := ri_of (by decide +kernel) rfl
theorem wi_386_137 : ri (rt_P sc fm) 386 137 (.invokevirtual 528) (140) := ri_of (by decide +kernel) rfl
theorem wi_386_14 : ri (rt_P sc fm) 386 14 (.lstore_n 2) (15) := ri_of (by decide +kernel) rfl
theorem wi_386_140 : ri (rt_P sc fm) 386 140 (.istore 7) (142) := ri_of (by decide +kernel) rfl
theorem wi_386_142 : ri (rt_P sc fm) 386 142 (.aload_n 0) (143) := ri_of (by decide +kernel) rfl
theorem wi_386_143 : ri (rt_P sc fm) 386 143 (.getfield 409) (146) := ri_of (by decide +kernel) rfl
theorem wi_386_146 : ri (rt_P sc fm) 386 146 (.ifCond .ne 19) (149) := ri_of (by decide +kernel) rfl
theorem wi_386_149 : ri (rt_P sc fm) 386 149 (.aload_n 0) (150) := ri_of (by decide +kernel) rfl
theorem wi_386_15 : ri (rt_P sc fm) 386 15 (.aload_n 0) (16) := ri_of (by decide +kernel) rfl
theorem wi_386_150 : ri (rt_P sc fm) 386 150 (.getfield 103) (153) := ri_of (by decide +kernel) rfl
theorem wi_386_153 : ri (rt_P sc fm) 386 153 (.aload_n 0) (154) := ri_of (by decide +kernel) rfl
theorem wi_386_154 : ri (rt_P sc fm) 386 154 (.iload 4) (156) := ri_of (by decide +kernel) rfl
theorem wi_386_156 : ri (rt_P sc fm) 386 156 (.iload 6) (158) := ri_of (by decide +kernel) rfl
theorem wi_386_158 : ri (rt_P sc fm) 386 158 (.iload 7) (160) := ri_of (by decide +kernel) rfl
theorem wi_386_16 : ri (rt_P sc fm) 386 16 (.bipush 58) (18) := ri_of (by decide +kernel) rfl
theorem wi_386_160 : ri (rt_P sc fm) 386 160 (.invokevirtual 524) (163) := ri_of (by decide +kernel) rfl
theorem wi_386_163 : ri (rt_P sc fm) 386 163 (.iconst 1) (164) := ri_of (by decide +kernel) rfl
theorem wi_386_164 : ri (rt_P sc fm) 386 164 (.bastore) (165) := ri_of (by decide +kernel) rfl
theorem wi_386_165 : ri (rt_P sc fm) 386 165 (.aload_n 0) (166) := ri_of (by decide +kernel) rfl
theorem wi_386_166 : ri (rt_P sc fm) 386 166 (.bipush 44) (168) := ri_of (by decide +kernel) rfl
theorem wi_386_168 : ri (rt_P sc fm) 386 168 (.invokevirtual 483) (171) := ri_of (by decide +kernel) rfl
theorem wi_386_171 : ri (rt_P sc fm) 386 171 (.istore 5) (173) := ri_of (by decide +kernel) rfl
theorem wi_386_173 : ri (rt_P sc fm) 386 173 (.goto (-68)) (176) := ri_of (by decide +kernel) rfl
theorem wi_386_176 : ri (rt_P sc fm) 386 176 (.aload_n 0) (177) := ri_of (by decide +kernel) rfl
theorem wi_386_177 : ri (rt_P sc fm) 386 177 (.getfield 409) (180) := ri_of (by decide +kernel) rfl
theorem wi_386_18 : ri (rt_P sc fm) 386 18 (.invokevirtual 521) (21) := ri_of (by decide +kernel) rfl
theorem wi_386_180 : ri (rt_P sc fm) 386 180 (.ifCond .eq 4) (183) := ri_of (by decide +kernel) rfl
theorem wi_386_183 : ri (rt_P sc fm) 386 183 (.return_) (184) := ri_of (by decide +kernel) rfl
theorem wi_386_184 : ri (rt_P sc fm) 386 184 (.aload_n 0) (185) := ri_of (by decide +kernel) rfl
theorem wi_386_185 : ri (rt_P sc fm) 386 185 (.bipush 59) (187) := ri_of (by decide +kernel) rfl
theorem wi_386_187 : ri (rt_P sc fm) 386 187 (.invokevirtual 477) (190) := ri_of (by decide +kernel) rfl
theorem wi_386_190 : ri (rt_P sc fm) 386 190 (.ifCond .ne 8) (193) := ri_of (by decide +kernel) rfl
theorem wi_386_193 : ri (rt_P sc fm) 386 193 (.aload_n 0) (194) := ri_of (by decide +kernel) rfl
theorem wi_386_194 : ri (rt_P sc fm) 386 194 (.invokevirtual 480) (197) := ri_of (by decide +kernel) rfl
theorem wi_386_197 : ri (rt_P sc fm) 386 197 (.return_) (198) := ri_of (by decide +kernel) rfl
theorem wi_386_198 : ri (rt_P sc fm) 386 198 (.aload_n 0) (199) := ri_of (by decide +kernel) rfl
theorem wi_386_199 : ri (rt_P sc fm) 386 199 (.iload 4) (201) := ri_of (by decide +kernel) rfl
theorem wi_386_201 : ri (rt_P sc fm) 386 201 (.invokevirtual 532) (204) := ri_of (by decide +kernel) rfl
theorem wi_386_204 : ri (rt_P sc fm) 386 204 (.ifCond .ne 14) (207) := ri_of (by decide +kernel) rfl
theorem wi_386_207 : ri (rt_P sc fm) 386 207 (.aload_n 0) (208) := ri_of (by decide +kernel) rfl
theorem wi_386_208 : ri (rt_P sc fm) 386 208 (.iconst 4) (209) := ri_of (by decide +kernel) rfl
theorem wi_386_209 : ri (rt_P sc fm) 386 209 (.aload_n 0) (210) := ri_of (by decide +kernel) rfl
theorem wi_386_21 : ri (rt_P sc fm) 386 21 (.aload_n 0) (22) := ri_of (by decide +kernel) rfl
theorem wi_386_210 : ri (rt_P sc fm) 386 210 (.getfield 87) (213) := ri_of (by decide +kernel) rfl
theorem wi_386_213 : ri (rt_P sc fm) 386 213 (.iload_n 1) (214) := ri_of (by decide +kernel) rfl
theorem wi_386_214 : ri (rt_P sc fm) 386 214 (.iaload) (215) := ri_of (by decide +kernel) rfl
theorem wi_386_215 : ri (rt_P sc fm) 386 215 (.invokevirtual 432) (218) := ri_of (by decide +kernel) rfl
theorem wi_386_218 : ri (rt_P sc fm) 386 218 (.aload_n 0) (219) := ri_of (by decide +kernel) rfl
theorem wi_386_219 : ri (rt_P sc fm) 386 219 (.dup) (220) := ri_of (by decide +kernel) rfl
theorem wi_386_22 : ri (rt_P sc fm) 386 22 (.getfield 409) (25) := ri_of (by decide +kernel) rfl
theorem wi_386_220 : ri (rt_P sc fm) 386 220 (.getfield 471) (223) := ri_of (by decide +kernel) rfl
theorem wi_386_223 : ri (rt_P sc fm) 386 223 (.iconst 1) (224) := ri_of (by decide +kernel) rfl
theorem wi_386_224 : ri (rt_P sc fm) 386 224 (.iadd) (225) := ri_of (by decide +kernel) rfl
theorem wi_386_225 : ri (rt_P sc fm) 386 225 (.putfield 471) (228) := ri_of (by decide +kernel) rfl
theorem wi_386_228 : ri (rt_P sc fm) 386 228 (.aload_n 0) (229) := ri_of (by decide +kernel) rfl
theorem wi_386_229 : ri (rt_P sc fm) 386 229 (.getfield 94) (232) := ri_of (by decide +kernel) rfl
theorem wi_386_232 : ri (rt_P sc fm) 386 232 (.iload 4) (234) := ri_of (by decide +kernel) rfl
theorem wi_386_234 : ri (rt_P sc fm) 386 234 (.lload_n 2) (235) := ri_of (by decide +kernel) rfl
theorem wi_386_235 : ri (rt_P sc fm) 386 235 (.lastore) (236) := ri_of (by decide +kernel) rfl
theorem wi_386_236 : ri (rt_P sc fm) 386 236 (.aload_n 0) (237) := ri_of (by decide +kernel) rfl
theorem wi_386_237 : ri (rt_P sc fm) 386 237 (.dup) (238) := ri_of (by decide +kernel) rfl
theorem wi_386_238 : ri (rt_P sc fm) 386 238 (.getfield 447) (241) := ri_of (by decide +kernel) rfl
theorem wi_386_241 : ri (rt_P sc fm) 386 241 (.iconst 1) (242) := ri_of (by decide +kernel) rfl
theorem wi_386_242 : ri (rt_P sc fm) 386 242 (.iadd) (243) := ri_of (by decide +kernel) rfl
theorem wi_386_243 : ri (rt_P sc fm) 386 243 (.putfield 447) (246) := ri_of (by decide +kernel) rfl
theorem wi_386_246 : ri (rt_P sc fm) 386 246 (.return_) (247) := ri_of (by decide +kernel) rfl
theorem wi_386_25 : ri (rt_P sc fm) 386 25 (.ifCond .eq 4) (28) := ri_of (by decide +kernel) rfl
theorem wi_386_28 : ri (rt_P sc fm) 386 28 (.return_) (29) := ri_of (by decide +kernel) rfl
theorem wi_386_29 : ri (rt_P sc fm) 386 29 (.aload_n 0) (30) := ri_of (by decide +kernel) rfl
theorem wi_386_30 : ri (rt_P sc fm) 386 30 (.getfield 447) (33) := ri_of (by decide +kernel) rfl
theorem wi_386_33 : ri (rt_P sc fm) 386 33 (.istore 4) (35) := ri_of (by decide +kernel) rfl
theorem wi_386_35 : ri (rt_P sc fm) 386 35 (.aload_n 0) (36) := ri_of (by decide +kernel) rfl
theorem wi_386_36 : ri (rt_P sc fm) 386 36 (.getfield 97) (39) := ri_of (by decide +kernel) rfl
theorem wi_386_39 : ri (rt_P sc fm) 386 39 (.iload 4) (41) := ri_of (by decide +kernel) rfl
theorem wi_386_4 : ri (rt_P sc fm) 386 4 (.istore_n 1) (5) := ri_of (by decide +kernel) rfl
theorem wi_386_41 : ri (rt_P sc fm) 386 41 (.iconst 0) (42) := ri_of (by decide +kernel) rfl
theorem wi_386_42 : ri (rt_P sc fm) 386 42 (.iastore) (43) := ri_of (by decide +kernel) rfl
theorem wi_386_43 : ri (rt_P sc fm) 386 43 (.iconst 0) (44) := ri_of (by decide +kernel) rfl
theorem wi_386_44 : ri (rt_P sc fm) 386 44 (.istore 5) (46) := ri_of (by decide +kernel) rfl
theorem wi_386_46 : ri (rt_P sc fm) 386 46 (.iload 5) (48) := ri_of (by decide +kernel) rfl
theorem wi_386_48 : ri (rt_P sc fm) 386 48 (.bipush 12) (50) := ri_of (by decide +kernel) rfl
theorem wi_386_5 : ri (rt_P sc fm) 386 5 (.aload_n 0) (6) := ri_of (by decide +kernel) rfl
theorem wi_386_50 : ri (rt_P sc fm) 386 50 (.if_icmp .ge 52) (53) := ri_of (by decide +kernel) rfl
theorem wi_386_53 : ri (rt_P sc fm) 386 53 (.iconst 0) (54) := ri_of (by decide +kernel) rfl
theorem wi_386_54 : ri (rt_P sc fm) 386 54 (.istore 6) (56) := ri_of (by decide +kernel) rfl
theorem wi_386_56 : ri (rt_P sc fm) 386 56 (.iload 6) (58) := ri_of (by decide +kernel) rfl
theorem wi_386_58 : ri (rt_P sc fm) 386 58 (.bipush 12) (60) := ri_of (by decide +kernel) rfl
theorem wi_386_6 : ri (rt_P sc fm) 386 6 (.aload_n 0) (7) := ri_of (by decide +kernel) rfl
theorem wi_386_60 : ri (rt_P sc fm) 386 60 (.if_icmp .ge 36) (63) := ri_of (by decide +kernel) rfl
theorem wi_386_63 : ri (rt_P sc fm) 386 63 (.aload_n 0) (64) := ri_of (by decide +kernel) rfl
theorem wi_386_64 : ri (rt_P sc fm) 386 64 (.getfield 103) (67) := ri_of (by decide +kernel) rfl
theorem wi_386_67 : ri (rt_P sc fm) 386 67 (.aload_n 0) (68) := ri_of (by decide +kernel) rfl
theorem wi_386_68 : ri (rt_P sc fm) 386 68 (.iload 4) (70) := ri_of (by decide +kernel) rfl
theorem wi_386_7 : ri (rt_P sc fm) 386 7 (.getfield 447) (10) := ri_of (by decide +kernel) rfl
theorem wi_386_70 : ri (rt_P sc fm) 386 70 (.iload 5) (72) := ri_of (by decide +kernel) rfl
theorem wi_386_72 : ri (rt_P sc fm) 386 72 (.iload 6) (74) := ri_of (by decide +kernel) rfl
theorem wi_386_74 : ri (rt_P sc fm) 386 74 (.invokevirtual 524) (77) := ri_of (by decide +kernel) rfl
theorem wi_386_77 : ri (rt_P sc fm) 386 77 (.iload 5) (79) := ri_of (by decide +kernel) rfl
theorem wi_386_79 : ri (rt_P sc fm) 386 79 (.iload 6) (81) := ri_of (by decide +kernel) rfl
theorem wi_386_81 : ri (rt_P sc fm) 386 81 (.if_icmp .ne 7) (84) := ri_of (by decide +kernel) rfl
theorem wi_386_84 : ri (rt_P sc fm) 386 84 (.iconst 1) (85) := ri_of (by decide +kernel) rfl
theorem wi_386_85 : ri (rt_P sc fm) 386 85 (.goto 4) (88) := ri_of (by decide +kernel) rfl
theorem wi_386_88 : ri (rt_P sc fm) 386 88 (.iconst 0) (89) := ri_of (by decide +kernel) rfl
theorem wi_386_89 : ri (rt_P sc fm) 386 89 (.bastore) (90) := ri_of (by decide +kernel) rfl
theorem wi_386_90 : ri (rt_P sc fm) 386 90 (.iinc 6 1) (93) := ri_of (by decide +kernel) rfl
theorem wi_386_93 : ri (rt_P sc fm) 386 93 (.goto (-37)) (96) := ri_of (by decide +kernel) rfl
theorem wi_386_96 : ri (rt_P sc fm) 386 96 (.iinc 5 1) (99) := ri_of (by decide +kernel) rfl
theorem wi_386_99 : ri (rt_P sc fm) 386 99 (.goto (-53)) (102) := ri_of (by decide +kernel) rfl
theorem wm_379 : rx_ml (rt_P sc fm) 379 = 2 := (by decide +kernel : rt_ml 379 = 2)
theorem wm_380 : rx_ml (rt_P sc fm) 380 = 2 := (by decide +kernel : rt_ml 380 = 2)
theorem wm_383 : rx_ml (rt_P sc fm) 383 = 6 := (by decide +kernel : rt_ml 383 = 6)
theorem wm_384 : rx_ml (rt_P sc fm) 384 = 6 := (by decide +kernel : rt_ml 384 = 6)
theorem wm_389 : rx_ml (rt_P sc fm) 389 = 8 := (by decide +kernel : rt_ml 389 = 8)
theorem wp_386_447 : rx_pt (rt_P sc fm) 386 447 = some (15, 15, .int) := (by decide +kernel : rt_pt 386 447 = some (15, 15, .int))
theorem wp_386_471 : rx_pt (rt_P sc fm) 386 471 = some (15, 67, .int) := (by decide +kernel : rt_pt 386 471 = some (15, 67, .int))
theorem wr_386 : rx_rt (rt_P sc fm) 386 = none := (by decide +kernel : rt_rt 386 = none)
/-- MarkHouseModel.readOrder()V -/
def d_386 (n : Nat)  (c : cS) : Option (cS) :=
  lt ((c.1 174 67) : Int32) (fun v2 =>
  Option.bind (d_383 n (c.1 174 15) 4 c) (fun r4 =>
  Option.bind (d_380 n 58 r4.2) (fun r6 =>
  if (r6.1 174 13) = 0 then
    lt ((r6.1 174 15) : Int32) (fun v8 =>
    if ib v8 4 then
    lt (pI r6 182 (ix v8) 0) (fun c11 =>
    Option.bind (whl (R := (cS)) (fun s14 : Int32 × cS =>
      if 12 ≤ s14.1 then
        some (.inr s14.2)
      else
        Option.bind (whl (R := (cS)) (fun s16 : Int32 × cS =>
          if 12 ≤ s16.1 then
            some (.inr s16.2)
          else
            Option.bind (d_385 n v8 s14.1 s16.1) (fun v17 =>
            jn (fun p18 : Int32 =>
              if ib v17 576 then
              lt (pI s16.2 184 (ix v17) (vp_nar .boolean p18)) (fun c20 =>
              lt (s16.1 + 1 : Int32) (fun v23 =>
              some (.inl (v23, c20))))
              else none)
            (fun j89 =>
            if s14.1 = s16.1 then
              j89 1
            else
              j89 0))) n (0, s14.2))
        (fun x25 : cS =>
          lt (s14.1 + 1 : Int32) (fun v27 =>
          some (.inl (v27, x25))))) n (0, c11))
    (fun x29 : cS =>
      Option.bind (whl (R := (cS)) (fun s31 : Int32 × cS =>
        if s31.1 = 0 then
          some (.inr s31.2)
        else
          if (s31.2.1 174 13) = 0 then
            Option.bind (d_384 n v8 s31.2) (fun r32 =>
            Option.bind (d_379 n 60 r32.2) (fun r34 =>
            jn (fun p35 : cS =>
              Option.bind (d_379 n 44 p35) (fun r36 =>
              some (.inl (r36.1, r36.2))))
            (fun j165 =>
            if r34.1 = 0 then
              j165 r34.2
            else
              Option.bind (d_384 n v8 r34.2) (fun r38 =>
              if (r38.2.1 174 13) = 0 then
                Option.bind (d_385 n v8 r32.1 r38.1) (fun v40 =>
                if ib v40 576 then
                lt (pI r38.2 184 (ix v40) (vp_nar .boolean 1)) (fun c42 =>
                j165 c42)
                else none)
              else
                j165 r38.2))))
          else
            some (.inr s31.2)) n (1, x29))
      (fun x44 : cS =>
        if (x44.1 174 13) = 0 then
          Option.bind (d_101 n 59 x44) (fun v45 =>
          if v45 = 0 then
            Option.bind (d_103 n x44) (fun r57 =>
            some r57)
          else
            Option.bind (d_389 n v8 x44) (fun r46 =>
            jn (fun p47 : cS =>
              lt (pI p47 174 67 ((p47.1 174 67) + 1)) (fun c48 =>
              if ib v8 4 then
              lt (pL c48 181 (ix v8) r4.1) (fun c51 =>
              lt (pI c51 174 15 ((c51.1 174 15) + 1)) (fun c53 =>
              some c53))
              else none))
            (fun j218 =>
            if r46.1 = 0 then
              if ib v2 4001 then
              Option.bind (d_97 n 4 (r46.2.1 179 (ix v2)) r46.2) (fun r56 =>
              j218 r56)
              else none
            else
              j218 r46.2)))
        else
          some x44)))
    else none)
  else
    some r6)))
set_option maxRecDepth 100000 in
set_option maxHeartbeats 4000000 in
theorem sp_386 {F Lo n : Nat}  {c y : cS} {w : cW} {K : cS → Prop} {Q : ((Option Value) ⊕ String) → List va_E → Prop} (hw : rOK fm w) (hF : 4 ≤ F) (hLo : 102 ≤ Lo)  (h : wp (d_386 n  c) K) (hQ : ∀ r, K r → Q (.inl none) (hq false r y w)) : rs (rt_P sc fm) 386 F Lo 0 [(0, .ref 174)] [] (hq false c y w) Q := by
  unfold d_386 at h
  obtain ⟨lv, elv⟩ : ∃ lv : rx_L, lv = [(0, .ref 174)] := ⟨_, rfl⟩
  rw [← elv]
  have l0 : rx_ld lv 0 = some (.ref 174) := by rw [elv]; rfl
  refine rs_aldn wi_386_0 l0 ?_
  refine dq_gi wi_386_1 wf_386_471 tf_174_67 ?_
  obtain ⟨v2, e3, h⟩ := wp_lt h
  refine rs_topi e3 ?_
  refine dl_istn wi_386_4 rfl (fun lv l1 t1 => ?_)
  have l0 := t1 _ _ (by decide) (Or.inl rfl) l0
  refine rs_aldn wi_386_5 l0 ?_
  refine rs_aldn wi_386_6 l0 ?_
  refine dq_gi wi_386_7 wf_386_447 tf_174_15 ?_
  refine rs_pure wi_386_10 rfl ?_
  refine rs_topi (v := 4) (by decide) ?_
  refine rs_V wi_386_11 wc_386_517 rfl (dq_isa tf_174_0 wa_15_383) (Nat.le_trans (by decide) hF) (ml_le wm_383 (Nat.le_trans (by decide) hLo)) rfl (sp_383 hw (Nat.le_trans (by decide : 3 ≤ 4 - 1) (Nat.sub_le_sub_right hF 1)) (ml_sub wm_383 (Nat.le_trans (by decide : 62 ≤ 102 - 25) (Nat.sub_le_sub_right hLo 25))) (wp_bind h) (fun r4 h => rs_back1 ?_))
  refine dl_lstn wi_386_14 rfl (fun lv l2 t5 => ?_)
  have l0 := t5 _ _ (by decide) (by decide) (Or.inl rfl) l0
  have l1 := t5 _ _ (by decide) (by decide) (Or.inl rfl) l1
  refine rs_aldn wi_386_15 l0 ?_
  refine rs_pure wi_386_16 rfl ?_
  refine rs_topi (v := 58) (by decide) ?_
  refine rs_V wi_386_18 wc_386_521 rfl (dq_isa tf_174_0 wa_15_380) (Nat.le_trans (by decide) hF) (ml_le wm_380 (Nat.le_trans (by decide) hLo)) rfl (sp_380 hw (Nat.le_trans (by decide : 2 ≤ 4 - 1) (Nat.sub_le_sub_right hF 1)) (ml_sub wm_380 (Nat.le_trans (by decide : 42 ≤ 102 - 21) (Nat.sub_le_sub_right hLo 21))) (wp_bind h) (fun r6 h => rs_back0 ?_))
  refine rs_aldn wi_386_21 l0 ?_
  refine dq_gi wi_386_22 wf_386_409 tf_174_13 ?_
  refine rs_ifeq (tg := 29) wi_386_25 ⟨by decide, by decide⟩ (fun q => ?_) (fun q => ?_)
  ·
    have h := wp_pos h q
    refine rs_aldn wi_386_29 l0 ?_
    refine dq_gi wi_386_30 wf_386_447 tf_174_15 ?_
    obtain ⟨v8, e9, h⟩ := wp_lt h
    refine rs_topi e9 ?_
    refine dl_ist wi_386_33 rfl (fun lv l4 t7 => ?_)
    have l0 := t7 _ _ (by decide) (Or.inl rfl) l0
    have l1 := t7 _ _ (by decide) (Or.inl rfl) l1
    have l2 := t7 _ _ (by decide) (Or.inr (by decide)) l2
    refine rs_aldn wi_386_35 l0 ?_
    refine dq_gr wi_386_36 wf_386_97 tf_174_17 ?_
    refine rs_ild wi_386_39 l4 ?_
    refine rs_pure wi_386_41 rfl ?_
    refine rs_topi (v := 0) (by decide) ?_
    obtain ⟨g10, h⟩ := wp_gd h
    obtain ⟨c11, e12, h⟩ := wp_lt h
    refine dq_iast wi_386_42 t_182 g10 e12 ?_
    refine rs_pure wi_386_43 rfl ?_
    refine rs_topi (v := 0) (by decide) ?_
    refine dl_ist wi_386_44 rfl (fun lv l5 t13 => ?_)
    have l0 := t13 _ _ (by decide) (Or.inl rfl) l0
    have l1 := t13 _ _ (by decide) (Or.inl rfl) l1
    have l2 := t13 _ _ (by decide) (Or.inr (by decide)) l2
    have l4 := t13 _ _ (by decide) (Or.inl rfl) l4
    refine whl_ex (A := fun s14 : Int32 × cS => ∀ lv, rx_ld lv 0 = some (.ref 174) → rx_ld lv 1 = some (.int v2) → rx_ld lv 2 = some (.long r4.1) → rx_ld lv 4 = some (.int v8) → rx_ld lv 5 = some (.int s14.1) → rs (rt_P sc fm) 386 F Lo 46 lv [] (hq false s14.2 y w) Q) (B := (fun x29 : cS => ∀ lv, rx_ld lv 0 = some (.ref 174) → rx_ld lv 1 = some (.int v2) → rx_ld lv 2 = some (.long r4.1) → rx_ld lv 4 = some (.int v8) → rs (rt_P sc fm) 386 F Lo 102 lv [] (hq false x29 y w) Q)) ?_ ?_ _ _ (wp_bind h) _ l0 l1 l2 l4 l5
    · intro s14 h lv l0 l1 l2 l4 l5
      refine rs_ild wi_386_46 l5 ?_
      refine rs_pure wi_386_48 rfl ?_
      refine rs_topi (v := 12) (by decide) ?_
      refine rs_icge (tg := 102) wi_386_50 ⟨by decide, by decide⟩ (fun q => ?_) (fun q => ?_)
      ·
        have h := wp_pos h q
        exact h _ l0 l1 l2 l4
      ·
        have h := wp_neg h q
        refine rs_pure wi_386_53 rfl ?_
        refine rs_topi (v := 0) (by decide) ?_
        refine dl_ist wi_386_54 rfl (fun lv l6 t15 => ?_)
        have l0 := t15 _ _ (by decide) (Or.inl rfl) l0
        have l1 := t15 _ _ (by decide) (Or.inl rfl) l1
        have l2 := t15 _ _ (by decide) (Or.inr (by decide)) l2
        have l4 := t15 _ _ (by decide) (Or.inl rfl) l4
        have l5 := t15 _ _ (by decide) (Or.inl rfl) l5
        refine whl_ex (A := fun s16 : Int32 × cS => ∀ lv, rx_ld lv 0 = some (.ref 174) → rx_ld lv 1 = some (.int v2) → rx_ld lv 2 = some (.long r4.1) → rx_ld lv 4 = some (.int v8) → rx_ld lv 5 = some (.int s14.1) → rx_ld lv 6 = some (.int s16.1) → rs (rt_P sc fm) 386 F Lo 56 lv [] (hq false s16.2 y w) Q) (B := (fun x25 : cS => ∀ lv, rx_ld lv 0 = some (.ref 174) → rx_ld lv 1 = some (.int v2) → rx_ld lv 2 = some (.long r4.1) → rx_ld lv 4 = some (.int v8) → rx_ld lv 5 = some (.int s14.1) → rs (rt_P sc fm) 386 F Lo 96 lv [] (hq false x25 y w) Q)) ?_ ?_ _ _ (wp_bind h) _ l0 l1 l2 l4 l5 l6
        · intro s16 h lv l0 l1 l2 l4 l5 l6
          refine rs_ild wi_386_56 l6 ?_
          refine rs_pure wi_386_58 rfl ?_
          refine rs_topi (v := 12) (by decide) ?_
          refine rs_icge (tg := 96) wi_386_60 ⟨by decide, by decide⟩ (fun q => ?_) (fun q => ?_)
          ·
            have h := wp_pos h q
            exact h _ l0 l1 l2 l4 l5
          ·
            have h := wp_neg h q
            refine rs_aldn wi_386_63 l0 ?_
            refine dq_gr wi_386_64 wf_386_103 tf_174_19 ?_
            refine rs_aldn wi_386_67 l0 ?_
            refine rs_ild wi_386_68 l4 ?_
            refine rs_ild wi_386_70 l5 ?_
            refine rs_ild wi_386_72 l6 ?_
            refine rs_V wi_386_74 wc_386_524 rfl (dq_isa tf_174_0 wa_15_385) (Nat.le_trans (by decide) hF) (ml_le wm_385 (Nat.le_trans (by decide) hLo)) rfl (sp_385 (Nat.le_trans (by decide : 0 ≤ 4 - 1) (Nat.sub_le_sub_right hF 1)) (ml_sub wm_385 (Nat.le_trans (by decide : 0 ≤ 102 - 23) (Nat.sub_le_sub_right hLo 23))) (wp_bind h) (fun v17 h => rs_back1 ?_))
            refine rs_ild wi_386_77 l5 ?_
            refine rs_ild wi_386_79 l6 ?_
            refine wp_jn (B := fun p18 : Int32 => ∀ lv, rx_ld lv 0 = some (.ref 174) → rx_ld lv 1 = some (.int v2) → rx_ld lv 2 = some (.long r4.1) → rx_ld lv 4 = some (.int v8) → rx_ld lv 5 = some (.int s14.1) → rx_ld lv 6 = some (.int s16.1) → rs (rt_P sc fm) 386 F Lo 89 lv [.int p18, .int v17, .ref 184] (hq false s16.2 y w) Q) h (fun p18 h lv l0 l1 l2 l4 l5 l6 => ?_) (fun j89 hj89 h => ?_)
            ·
              obtain ⟨g19, h⟩ := wp_gd h
              obtain ⟨c20, e21, h⟩ := wp_lt h
              refine dq_zast wi_386_89 t_184 g19 e21 ?_
              obtain ⟨v23, e24, h⟩ := wp_lt h
              refine dl_inc wi_386_90 l6 rfl e24 (fun lv l6 t22 => ?_)
              have l0 := t22 _ _ (by decide) (Or.inl rfl) l0
              have l1 := t22 _ _ (by decide) (Or.inl rfl) l1
              have l2 := t22 _ _ (by decide) (Or.inr (by decide)) l2
              have l4 := t22 _ _ (by decide) (Or.inl rfl) l4
              have l5 := t22 _ _ (by decide) (Or.inl rfl) l5
              refine rs_goto (tg := 56) wi_386_93 ⟨by decide, by decide⟩ ?_
              exact h _ l0 l1 l2 l4 l5 l6
            refine rs_icne (tg := 88) wi_386_81 ⟨by decide, by decide⟩ (fun q => ?_) (fun q => ?_)
            ·
              have h := wp_neg h q
              refine rs_pure wi_386_88 rfl ?_
              refine rs_topi (v := 0) (by decide) ?_
              exact hj89 _ h _ l0 l1 l2 l4 l5 l6
            ·
              have h := wp_pos h q
              refine rs_pure wi_386_84 rfl ?_
              refine rs_topi (v := 1) (by decide) ?_
              refine rs_goto (tg := 89) wi_386_85 ⟨by decide, by decide⟩ ?_
              exact hj89 _ h _ l0 l1 l2 l4 l5 l6
        ·
          intro x25 h lv l0 l1 l2 l4 l5
          obtain ⟨v27, e28, h⟩ := wp_lt h
          refine dl_inc wi_386_96 l5 rfl e28 (fun lv l5 t26 => ?_)
          have l0 := t26 _ _ (by decide) (Or.inl rfl) l0
          have l1 := t26 _ _ (by decide) (Or.inl rfl) l1
          have l2 := t26 _ _ (by decide) (Or.inr (by decide)) l2
          have l4 := t26 _ _ (by decide) (Or.inl rfl) l4
          refine rs_goto (tg := 46) wi_386_99 ⟨by decide, by decide⟩ ?_
          exact h _ l0 l1 l2 l4 l5
    ·
      intro x29 h lv l0 l1 l2 l4
      refine rs_pure wi_386_102 rfl ?_
      refine rs_topi (v := 1) (by decide) ?_
      refine dl_ist wi_386_103 rfl (fun lv l5 t30 => ?_)
      have l0 := t30 _ _ (by decide) (Or.inl rfl) l0
      have l1 := t30 _ _ (by decide) (Or.inl rfl) l1
      have l2 := t30 _ _ (by decide) (Or.inr (by decide)) l2
      have l4 := t30 _ _ (by decide) (Or.inl rfl) l4
      refine whl_ex (A := fun s31 : Int32 × cS => ∀ lv, rx_ld lv 0 = some (.ref 174) → rx_ld lv 1 = some (.int v2) → rx_ld lv 2 = some (.long r4.1) → rx_ld lv 4 = some (.int v8) → rx_ld lv 5 = some (.int s31.1) → rs (rt_P sc fm) 386 F Lo 105 lv [] (hq false s31.2 y w) Q) (B := (fun x44 : cS => ∀ lv, rx_ld lv 0 = some (.ref 174) → rx_ld lv 1 = some (.int v2) → rx_ld lv 2 = some (.long r4.1) → rx_ld lv 4 = some (.int v8) → rs (rt_P sc fm) 386 F Lo 176 lv [] (hq false x44 y w) Q)) ?_ ?_ _ _ (wp_bind h) _ l0 l1 l2 l4 l5
      · intro s31 h lv l0 l1 l2 l4 l5
        refine rs_ild wi_386_105 l5 ?_
        refine rs_ifeq (tg := 176) wi_386_107 ⟨by decide, by decide⟩ (fun q => ?_) (fun q => ?_)
        ·
          have h := wp_pos h q
          exact h _ l0 l1 l2 l4
        ·
          have h := wp_neg h q
          refine rs_aldn wi_386_110 l0 ?_
          refine dq_gi wi_386_111 wf_386_409 tf_174_13 ?_
          refine rs_ifne (tg := 176) wi_386_114 ⟨by decide, by decide⟩ (fun q => ?_) (fun q => ?_)
          ·
            have h := wp_neg h q
            exact h _ l0 l1 l2 l4
          ·
            have h := wp_pos h q
            refine rs_aldn wi_386_117 l0 ?_
            refine rs_ild wi_386_118 l4 ?_
            refine rs_V wi_386_120 wc_386_528 rfl (dq_isa tf_174_0 wa_15_384) (Nat.le_trans (by decide) hF) (ml_le wm_384 (Nat.le_trans (by decide) hLo)) rfl (sp_384 hw (Nat.le_trans (by decide : 3 ≤ 4 - 1) (Nat.sub_le_sub_right hF 1)) (ml_sub wm_384 (Nat.le_trans (by decide : 62 ≤ 102 - 25) (Nat.sub_le_sub_right hLo 25))) (wp_bind h) (fun r32 h => rs_back1 ?_))
            refine dl_ist wi_386_123 rfl (fun lv l6 t33 => ?_)
            have l0 := t33 _ _ (by decide) (Or.inl rfl) l0
            have l1 := t33 _ _ (by decide) (Or.inl rfl) l1
            have l2 := t33 _ _ (by decide) (Or.inr (by decide)) l2
            have l4 := t33 _ _ (by decide) (Or.inl rfl) l4
            refine rs_aldn wi_386_125 l0 ?_
            refine rs_pure wi_386_126 rfl ?_
            refine rs_topi (v := 60) (by decide) ?_
            refine rs_V wi_386_128 wc_386_483 rfl (dq_isa tf_174_0 wa_15_379) (Nat.le_trans (by decide) hF) (ml_le wm_379 (Nat.le_trans (by decide) hLo)) rfl (sp_379 hw (Nat.le_trans (by decide : 1 ≤ 4 - 1) (Nat.sub_le_sub_right hF 1)) (ml_sub wm_379 (Nat.le_trans (by decide : 21 ≤ 102 - 21) (Nat.sub_le_sub_right hLo 21))) (wp_bind h) (fun r34 h => rs_back1 ?_))
            refine wp_jn (B := fun p35 : cS => ∀ lv, rx_ld lv 0 = some (.ref 174) → rx_ld lv 1 = some (.int v2) → rx_ld lv 2 = some (.long r4.1) → rx_ld lv 4 = some (.int v8) → rs (rt_P sc fm) 386 F Lo 165 lv [] (hq false p35 y w) Q) h (fun p35 h lv l0 l1 l2 l4 => ?_) (fun j165 hj165 h => ?_)
            ·
              refine rs_aldn wi_386_165 l0 ?_
              refine rs_pure wi_386_166 rfl ?_
              refine rs_topi (v := 44) (by decide) ?_
              refine rs_V wi_386_168 wc_386_483 rfl (dq_isa tf_174_0 wa_15_379) (Nat.le_trans (by decide) hF) (ml_le wm_379 (Nat.le_trans (by decide) hLo)) rfl (sp_379 hw (Nat.le_trans (by decide : 1 ≤ 4 - 1) (Nat.sub_le_sub_right hF 1)) (ml_sub wm_379 (Nat.le_trans (by decide : 21 ≤ 102 - 21) (Nat.sub_le_sub_right hLo 21))) (wp_bind h) (fun r36 h => rs_back1 ?_))
              refine dl_ist wi_386_171 rfl (fun lv l5 t37 => ?_)
              have l0 := t37 _ _ (by decide) (Or.inl rfl) l0
              have l1 := t37 _ _ (by decide) (Or.inl rfl) l1
              have l2 := t37 _ _ (by decide) (Or.inr (by decide)) l2
              have l4 := t37 _ _ (by decide) (Or.inl rfl) l4
              refine rs_goto (tg := 105) wi_386_173 ⟨by decide, by decide⟩ ?_
              exact h _ l0 l1 l2 l4 l5
            refine rs_ifeq (tg := 165) wi_386_131 ⟨by decide, by decide⟩ (fun q => ?_) (fun q => ?_)
            ·
              have h := wp_pos h q
              exact hj165 _ h _ l0 l1 l2 l4
            ·
              have h := wp_neg h q
              refine rs_aldn wi_386_134 l0 ?_
              refine rs_ild wi_386_135 l4 ?_
              refine rs_V wi_386_137 wc_386_528 rfl (dq_isa tf_174_0 wa_15_384) (Nat.le_trans (by decide) hF) (ml_le wm_384 (Nat.le_trans (by decide) hLo)) rfl (sp_384 hw (Nat.le_trans (by decide : 3 ≤ 4 - 1) (Nat.sub_le_sub_right hF 1)) (ml_sub wm_384 (Nat.le_trans (by decide : 62 ≤ 102 - 25) (Nat.sub_le_sub_right hLo 25))) (wp_bind h) (fun r38 h => rs_back1 ?_))
              refine dl_ist wi_386_140 rfl (fun lv l7 t39 => ?_)
              have l0 := t39 _ _ (by decide) (Or.inl rfl) l0
              have l1 := t39 _ _ (by decide) (Or.inl rfl) l1
              have l2 := t39 _ _ (by decide) (Or.inr (by decide)) l2
              have l4 := t39 _ _ (by decide) (Or.inl rfl) l4
              have l6 := t39 _ _ (by decide) (Or.inl rfl) l6
              refine rs_aldn wi_386_142 l0 ?_
              refine dq_gi wi_386_143 wf_386_409 tf_174_13 ?_
              refine rs_ifne (tg := 165) wi_386_146 ⟨by decide, by decide⟩ (fun q => ?_) (fun q => ?_)
              ·
                have h := wp_neg h q
                exact hj165 _ h _ l0 l1 l2 l4
              ·
                have h := wp_pos h q
                refine rs_aldn wi_386_149 l0 ?_
                refine dq_gr wi_386_150 wf_386_103 tf_174_19 ?_
                refine rs_aldn wi_386_153 l0 ?_
                refine rs_ild wi_386_154 l4 ?_
                refine rs_ild wi_386_156 l6 ?_
                refine rs_ild wi_386_158 l7 ?_
                refine rs_V wi_386_160 wc_386_524 rfl (dq_isa tf_174_0 wa_15_385) (Nat.le_trans (by decide) hF) (ml_le wm_385 (Nat.le_trans (by decide) hLo)) rfl (sp_385 (Nat.le_trans (by decide : 0 ≤ 4 - 1) (Nat.sub_le_sub_right hF 1)) (ml_sub wm_385 (Nat.le_trans (by decide : 0 ≤ 102 - 23) (Nat.sub_le_sub_right hLo 23))) (wp_bind h) (fun v40 h => rs_back1 ?_))
                refine rs_pure wi_386_163 rfl ?_
                refine rs_topi (v := 1) (by decide) ?_
                obtain ⟨g41, h⟩ := wp_gd h
                obtain ⟨c42, e43, h⟩ := wp_lt h
                refine dq_zast wi_386_164 t_184 g41 e43 ?_
                exact hj165 _ h _ l0 l1 l2 l4
      ·
        intro x44 h lv l0 l1 l2 l4
        refine rs_aldn wi_386_176 l0 ?_
        refine dq_gi wi_386_177 wf_386_409 tf_174_13 ?_
        refine rs_ifeq (tg := 184) wi_386_180 ⟨by decide, by decide⟩ (fun q => ?_) (fun q => ?_)
        ·
          have h := wp_pos h q
          refine rs_aldn wi_386_184 l0 ?_
          refine rs_pure wi_386_185 rfl ?_
          refine rs_topi (v := 59) (by decide) ?_
          refine rs_V wi_386_187 wc_386_477 rfl (dq_isa tf_174_0 wa_15_101) (Nat.le_trans (by decide) hF) (ml_le wm_101 (Nat.le_trans (by decide) hLo)) rfl (sp_101 hw (Nat.le_trans (by decide : 0 ≤ 4 - 1) (Nat.sub_le_sub_right hF 1)) (ml_sub wm_101 (Nat.le_trans (by decide : 0 ≤ 102 - 21) (Nat.sub_le_sub_right hLo 21))) (wp_bind h) (fun v45 h => rs_back1 ?_))
          refine rs_ifne (tg := 198) wi_386_190 ⟨by decide, by decide⟩ (fun q => ?_) (fun q => ?_)
          ·
            have h := wp_neg h q
            refine rs_aldn wi_386_198 l0 ?_
            refine rs_ild wi_386_199 l4 ?_
            refine rs_V wi_386_201 wc_386_532 rfl (dq_isa tf_174_0 wa_15_389) (Nat.le_trans (by decide) hF) (ml_le wm_389 (Nat.le_trans (by decide) hLo)) rfl (sp_389 hw (Nat.le_trans (by decide : 3 ≤ 4 - 1) (Nat.sub_le_sub_right hF 1)) (ml_sub wm_389 (Nat.le_trans (by decide : 75 ≤ 102 - 27) (Nat.sub_le_sub_right hLo 27))) (wp_bind h) (fun r46 h => rs_back1 ?_))
            refine wp_jn (B := fun p47 : cS => ∀ lv, rx_ld lv 0 = some (.ref 174) → rx_ld lv 2 = some (.long r4.1) → rx_ld lv 4 = some (.int v8) → rs (rt_P sc fm) 386 F Lo 218 lv [] (hq false p47 y w) Q) h (fun p47 h lv l0 l2 l4 => ?_) (fun j218 hj218 h => ?_)
            ·
              refine rs_aldn wi_386_218 l0 ?_
              refine rs_pure wi_386_219 rfl ?_
              refine dq_gi wi_386_220 wf_386_471 tf_174_67 ?_
              refine rs_pure wi_386_223 rfl ?_
              refine rs_topi (v := 1) (by decide) ?_
              refine rs_pure wi_386_224 rfl ?_
              obtain ⟨c48, e49, h⟩ := wp_lt h
              refine dq_pi wi_386_225 wp_386_471 tf_174_67 rfl rfl e49 ?_
              refine rs_aldn wi_386_228 l0 ?_
              refine dq_gr wi_386_229 wf_386_94 tf_174_16 ?_
              refine rs_ild wi_386_232 l4 ?_
              refine rs_lldn wi_386_234 l2 ?_
              obtain ⟨g50, h⟩ := wp_gd h
              obtain ⟨c51, e52, h⟩ := wp_lt h
              refine dq_last wi_386_235 t_181 g50 e52 ?_
              refine rs_aldn wi_386_236 l0 ?_
              refine rs_pure wi_386_237 rfl ?_
              refine dq_gi wi_386_238 wf_386_447 tf_174_15 ?_
              refine rs_pure wi_386_241 rfl ?_
              refine rs_topi (v := 1) (by decide) ?_
              refine rs_pure wi_386_242 rfl ?_
              obtain ⟨c53, e54, h⟩ := wp_lt h
              refine dq_pi wi_386_243 wp_386_447 tf_174_15 rfl rfl e54 ?_
              exact rs_vret wi_386_246 wr_386 (hQ c53 h)
            refine rs_ifne (tg := 218) wi_386_204 ⟨by decide, by decide⟩ (fun q => ?_) (fun q => ?_)
            ·
              have h := wp_neg h q
              exact hj218 _ h _ l0 l2 l4
            ·
              have h := wp_pos h q
              refine rs_aldn wi_386_207 l0 ?_
              refine rs_pure wi_386_208 rfl ?_
              refine rs_topi (v := 4) (by decide) ?_
              refine rs_aldn wi_386_209 l0 ?_
              refine dq_gr wi_386_210 wf_386_87 tf_174_9 ?_
              refine rs_ildn wi_386_213 l1 ?_
              obtain ⟨g55, h⟩ := wp_gd h
              refine dq_iald wi_386_214 t_179 g55 ?_
              refine rs_V wi_386_215 wc_386_432 rfl (dq_isa tf_174_0 wa_15_97) (Nat.le_trans (by decide) hF) (ml_le wm_97 (Nat.le_trans (by decide) hLo)) rfl (sp_97 hw (Nat.le_trans (by decide : 0 ≤ 4 - 1) (Nat.sub_le_sub_right hF 1)) (ml_sub wm_97 (Nat.le_trans (by decide : 0 ≤ 102 - 22) (Nat.sub_le_sub_right hLo 22))) (wp_bind h) (fun r56 h => rs_back0 ?_))
              exact hj218 _ h _ l0 l2 l4
          ·
            have h := wp_pos h q
            refine rs_aldn wi_386_193 l0 ?_
            refine rs_V wi_386_194 wc_386_480 rfl (dq_isa tf_174_0 wa_15_103) (Nat.le_trans (by decide) hF) (ml_le wm_103 (Nat.le_trans (by decide) hLo)) rfl (sp_103 hw (Nat.le_trans (by decide : 1 ≤ 4 - 1) (Nat.sub_le_sub_right hF 1)) (ml_sub wm_103 (Nat.le_trans (by decide : 22 ≤ 102 - 20) (Nat.sub_le_sub_right hLo 20))) (wp_bind h) (fun r57 h => rs_back0 ?_))
            exact rs_vret wi_386_197 wr_386 (hQ r57 h)
        ·
          have h := wp_neg h q
          exact rs_vret wi_386_183 wr_386 (hQ x44 h)
  ·
    have h := wp_neg h q
    exact rs_vret wi_386_28 wr_386 (hQ r6 h)
theorem t_190 : ta false 190 0 12 := ⟨rfl, by decide, by decide⟩
theorem t_191 : ta false 191 1 48 := ⟨rfl, by decide, by decide⟩
theorem tf_174_26 : fo false 174 15 26 (.ref 190) := ⟨_, rfl, rfl, by decide, by decide⟩
theorem tf_174_27 : fo false 174 15 27 (.ref 191) := ⟨_, rfl, rfl, by decide, by decide⟩
theorem wf_378_122 : rx_ft (rt_P sc fm) 378 122 = some (15, 26) := (by decide +kernel : rt_ft 378 122 = some (15, 26))
theorem wf_378_125 : rx_ft (rt_P sc fm) 378 125 = some (15, 27) := (by decide +kernel : rt_ft 378 125 = some (15, 27))
theorem wi_378_0 : ri (rt_P sc fm) 378 0 (.iconst 0) (1) := ri_of (by decide +kernel) rfl
theorem wi_378_1 : ri (rt_P sc fm) 378 1 (.istore 4) (3) := ri_of (by decide +kernel) rfl
theorem wi_378_10 : ri (rt_P sc fm) 378 10 (.iaload) (11) := ri_of (by decide +kernel) rfl
theorem wi_378_11 : ri (rt_P sc fm) 378 11 (.if_icmp .ge 28) (14) := ri_of (by decide +kernel) rfl
theorem wi_378_14 : ri (rt_P sc fm) 378 14 (.aload_n 0) (15) := ri_of (by decide +kernel) rfl
theorem wi_378_15 : ri (rt_P sc fm) 378 15 (.getfield 125) (18) := ri_of (by decide +kernel) rfl
theorem wi_378_18 : ri (rt_P sc fm) 378 18 (.iconst 4) (19) := ri_of (by decide +kernel) rfl
theorem wi_378_19 : ri (rt_P sc fm) 378 19 (.iload_n 1) (20) := ri_of (by decide +kernel) rfl
theorem wi_378_20 : ri (rt_P sc fm) 378 20 (.imul) (21) := ri_of (by decide +kernel) rfl
theorem wi_378_21 : ri (rt_P sc fm) 378 21 (.iload 4) (23) := ri_of (by decide +kernel) rfl
theorem wi_378_23 : ri (rt_P sc fm) 378 23 (.iadd) (24) := ri_of (by decide +kernel) rfl
theorem wi_378_24 : ri (rt_P sc fm) 378 24 (.laload) (25) := ri_of (by decide +kernel) rfl
theorem wi_378_25 : ri (rt_P sc fm) 378 25 (.lload_n 2) (26) := ri_of (by decide +kernel) rfl
theorem wi_378_26 : ri (rt_P sc fm) 378 26 (.lcmp) (27) := ri_of (by decide +kernel) rfl
theorem wi_378_27 : ri (rt_P sc fm) 378 27 (.ifCond .ne 6) (30) := ri_of (by decide +kernel) rfl
theorem wi_378_3 : ri (rt_P sc fm) 378 3 (.iload 4) (5) := ri_of (by decide +kernel) rfl
theorem wi_378_30 : ri (rt_P sc fm) 378 30 (.iload 4) (32) := ri_of (by decide +kernel) rfl
theorem wi_378_32 : ri (rt_P sc fm) 378 32 (.ireturn) (33) := ri_of (by decide +kernel) rfl
theorem wi_378_33 : ri (rt_P sc fm) 378 33 (.iinc 4 1) (36) := ri_of (by decide +kernel) rfl
theorem wi_378_36 : ri (rt_P sc fm) 378 36 (.goto (-33)) (39) := ri_of (by decide +kernel) rfl
theorem wi_378_39 : ri (rt_P sc fm) 378 39 (.iconst (-1)) (40) := ri_of (by decide +kernel) rfl
theorem wi_378_40 : ri (rt_P sc fm) 378 40 (.ireturn) (41) := ri_of (by decide +kernel) rfl
theorem wi_378_5 : ri (rt_P sc fm) 378 5 (.aload_n 0) (6) := ri_of (by decide +kernel) rfl
theorem wi_378_6 : ri (rt_P sc fm) 378 6 (.getfield 122) (9) := ri_of (by decide +kernel) rfl
theorem wi_378_9 : ri (rt_P sc fm) 378 9 (.iload_n 1) (10) := ri_of (by decide +kernel) rfl
theorem wr_378 : rx_rt (rt_P sc fm) 378 = (some FieldType.int) := (by decide +kernel : rt_rt 378 = (some FieldType.int))
/-- MarkHouseModel.memberOf(IJ)I -/
def d_378 (n : Nat) (a1 : Int32) (a2 : Int64) (c : cS) : Option (Int32) :=
  Option.bind (whl (R := (Unit) ⊕ (Int32)) (fun s2 : Int32 =>
    if ib a1 12 then
    if (c.1 190 (ix a1)) ≤ s2 then
      some (.inr (.inl ()))
    else
      if ib ((4 * a1) + s2) 48 then
      if (lg_cmp (c.2 191 (ix ((4 * a1) + s2))) a2) = 0 then
        some (.inr (.inr s2))
      else
        lt (s2 + 1 : Int32) (fun v6 =>
        some (.inl v6))
      else none
    else none) n 0)
  (Sum.elim (fun x8 : Unit =>
    some (-1))
  (fun x9 : Int32 =>
    some x9))
set_option maxRecDepth 100000 in
set_option maxHeartbeats 4000000 in
theorem sp_378 {F Lo n : Nat} {a1 : Int32} {a2 : Int64} {c y : cS} {w : cW} {K : Int32 → Prop} {Q : ((Option Value) ⊕ String) → List va_E → Prop} (hw : rOK fm w) (hF : 0 ≤ F) (hLo : 0 ≤ Lo)  (h : wp (d_378 n a1 a2 c) K) (hQ : ∀ r, K r → Q (.inl (some (.int r))) (hq false c y w)) : rs (rt_P sc fm) 378 F Lo 0 [(0, .ref 174), (1, .int a1), (2, .long a2)] [] (hq false c y w) Q := by
  unfold d_378 at h
  obtain ⟨lv, elv⟩ : ∃ lv : rx_L, lv = [(0, .ref 174), (1, .int a1), (2, .long a2)] := ⟨_, rfl⟩
  rw [← elv]
  have l0 : rx_ld lv 0 = some (.ref 174) := by rw [elv]; rfl
  have l1 : rx_ld lv 1 = some (.int a1) := by rw [elv]; rfl
  have l2 : rx_ld lv 2 = some (.long a2) := by rw [elv]; rfl
  refine rs_pure wi_378_0 rfl ?_
  refine rs_topi (v := 0) (by decide) ?_
  refine dl_ist wi_378_1 rfl (fun lv l4 t1 => ?_)
  have l0 := t1 _ _ (by decide) (Or.inl rfl) l0
  have l1 := t1 _ _ (by decide) (Or.inl rfl) l1
  have l2 := t1 _ _ (by decide) (Or.inr (by decide)) l2
  refine whl_ex (A := fun s2 : Int32 => ∀ lv, rx_ld lv 0 = some (.ref 174) → rx_ld lv 1 = some (.int a1) → rx_ld lv 2 = some (.long a2) → rx_ld lv 4 = some (.int s2) → rs (rt_P sc fm) 378 F Lo 3 lv [] (hq false c y w) Q) (B := (Sum.elim (fun x8 : Unit => ∀ lv, rs (rt_P sc fm) 378 F Lo 39 lv [] (hq false c y w) Q) (fun x9 : Int32 => ∀ lv, rx_ld lv 4 = some (.int x9) → rs (rt_P sc fm) 378 F Lo 30 lv [] (hq false c y w) Q))) ?_ ?_ _ _ (wp_bind h) _ l0 l1 l2 l4
  · intro s2 h lv l0 l1 l2 l4
    refine rs_ild wi_378_3 l4 ?_
    refine rs_aldn wi_378_5 l0 ?_
    refine dq_gr wi_378_6 wf_378_122 tf_174_26 ?_
    refine rs_ildn wi_378_9 l1 ?_
    obtain ⟨g3, h⟩ := wp_gd h
    refine dq_iald wi_378_10 t_190 g3 ?_
    refine rs_icge (tg := 39) wi_378_11 ⟨by decide, by decide⟩ (fun q => ?_) (fun q => ?_)
    ·
      have h := wp_pos h q
      exact h _
    ·
      have h := wp_neg h q
      refine rs_aldn wi_378_14 l0 ?_
      refine dq_gr wi_378_15 wf_378_125 tf_174_27 ?_
      refine rs_pure wi_378_18 rfl ?_
      refine rs_topi (v := 4) (by decide) ?_
      refine rs_ildn wi_378_19 l1 ?_
      refine rs_pure wi_378_20 rfl ?_
      refine rs_ild wi_378_21 l4 ?_
      refine rs_pure wi_378_23 rfl ?_
      obtain ⟨g4, h⟩ := wp_gd h
      refine dq_lald wi_378_24 t_191 g4 ?_
      refine rs_lldn wi_378_25 l2 ?_
      refine rs_pure wi_378_26 rfl ?_
      refine rs_ifne (tg := 33) wi_378_27 ⟨by decide, by decide⟩ (fun q => ?_) (fun q => ?_)
      ·
        have h := wp_neg h q
        obtain ⟨v6, e7, h⟩ := wp_lt h
        refine dl_inc wi_378_33 l4 rfl e7 (fun lv l4 t5 => ?_)
        have l0 := t5 _ _ (by decide) (Or.inl rfl) l0
        have l1 := t5 _ _ (by decide) (Or.inl rfl) l1
        have l2 := t5 _ _ (by decide) (Or.inr (by decide)) l2
        refine rs_goto (tg := 3) wi_378_36 ⟨by decide, by decide⟩ ?_
        exact h _ l0 l1 l2 l4
      ·
        have h := wp_pos h q
        exact h _ l4
  ·
    refine sum_all ?_ ?_
    ·
      intro x8 h lv
      have h := wp_inl h
      refine rs_pure wi_378_39 rfl ?_
      refine rs_topi (v := (-1)) (by decide) ?_
      exact rs_iret wi_378_40 wr_378 rfl (hQ (-1) h)
    ·
      intro x9 h lv l4
      have h := wp_inr h
      refine rs_ild wi_378_30 l4 ?_
      exact rs_iret wi_378_32 wr_378 rfl (hQ x9 h)
theorem tf_174_68 : fo false 174 15 68 (.long 0) := ⟨_, rfl, rfl, by decide, by decide⟩
theorem wc_382_432 : rx_ct (rt_P sc fm) 382 432 = some (0, 97, 2) := (by decide +kernel : rt_ct 382 432 = some (0, 97, 2))
theorem wc_382_477 : rx_ct (rt_P sc fm) 382 477 = some (0, 101, 1) := (by decide +kernel : rt_ct 382 477 = some (0, 101, 1))
theorem wc_382_480 : rx_ct (rt_P sc fm) 382 480 = some (0, 103, 0) := (by decide +kernel : rt_ct 382 480 = some (0, 103, 0))
theorem wc_382_483 : rx_ct (rt_P sc fm) 382 483 = some (0, 379, 1) := (by decide +kernel : rt_ct 382 483 = some (0, 379, 1))
theorem wf_382_409 : rx_ft (rt_P sc fm) 382 409 = some (15, 13) := (by decide +kernel : rt_ft 382 409 = some (15, 13))
theorem wf_382_471 : rx_ft (rt_P sc fm) 382 471 = some (15, 67) := (by decide +kernel : rt_ft 382 471 = some (15, 67))
theorem wf_382_84 : rx_ft (rt_P sc fm) 382 84 = some (15, 8) := (by decide +kernel : rt_ft 382 84 = some (15, 8))
theorem wf_382_87 : rx_ft (rt_P sc fm) 382 87 = some (15, 9) := (by decide +kernel : rt_ft 382 87 = some (15, 9))
theorem wf_382_90 : rx_ft (rt_P sc fm) 382 90 = some (15, 10) := (by decide +kernel : rt_ft 382 90 = some (15, 10))
theorem wi_382_0 : ri (rt_P sc fm) 382 0 (.aload_n 0) (1) := ri_of (by decide +kernel) rfl
theorem wi_382_1 : ri (rt_P sc fm) 382 1 (.getfield 409) (4) := ri_of (by decide +kernel) rfl
theorem wi_382_100 : ri (rt_P sc fm) 382 100 (.aload_n 0) (101) := ri_of (by decide +kernel) rfl
theorem wi_382_101 : ri (rt_P sc fm) 382 101 (.getfield 87) (104) := ri_of (by decide +kernel) rfl
theorem wi_382_104 : ri (rt_P sc fm) 382 104 (.iload_n 3) (105) := ri_of (by decide +kernel) rfl
theorem wi_382_105 : ri (rt_P sc fm) 382 105 (.iaload) (106) := ri_of (by decide +kernel) rfl
theorem wi_382_106 : ri (rt_P sc fm) 382 106 (.invokevirtual 432) (109) := ri_of (by decide +kernel) rfl
theorem wi_382_109 : ri (rt_P sc fm) 382 109 (.return_) (110) := ri_of (by decide +kernel) rfl
theorem wi_382_110 : ri (rt_P sc fm) 382 110 (.aload_n 0) (111) := ri_of (by decide +kernel) rfl
theorem wi_382_111 : ri (rt_P sc fm) 382 111 (.bipush 45) (113) := ri_of (by decide +kernel) rfl
theorem wi_382_113 : ri (rt_P sc fm) 382 113 (.invokevirtual 483) (116) := ri_of (by decide +kernel) rfl
theorem wi_382_116 : ri (rt_P sc fm) 382 116 (.istore 6) (118) := ri_of (by decide +kernel) rfl
theorem wi_382_118 : ri (rt_P sc fm) 382 118 (.iload_n 1) (119) := ri_of (by decide +kernel) rfl
theorem wi_382_119 : ri (rt_P sc fm) 382 119 (.ifCond .ne 21) (122) := ri_of (by decide +kernel) rfl
theorem wi_382_12 : ri (rt_P sc fm) 382 12 (.istore_n 3) (13) := ri_of (by decide +kernel) rfl
theorem wi_382_122 : ri (rt_P sc fm) 382 122 (.aload_n 0) (123) := ri_of (by decide +kernel) rfl
theorem wi_382_123 : ri (rt_P sc fm) 382 123 (.getfield 84) (126) := ri_of (by decide +kernel) rfl
theorem wi_382_126 : ri (rt_P sc fm) 382 126 (.aload_n 0) (127) := ri_of (by decide +kernel) rfl
theorem wi_382_127 : ri (rt_P sc fm) 382 127 (.getfield 471) (130) := ri_of (by decide +kernel) rfl
theorem wi_382_13 : ri (rt_P sc fm) 382 13 (.aload_n 0) (14) := ri_of (by decide +kernel) rfl
theorem wi_382_130 : ri (rt_P sc fm) 382 130 (.iaload) (131) := ri_of (by decide +kernel) rfl
theorem wi_382_131 : ri (rt_P sc fm) 382 131 (.iconst 1) (132) := ri_of (by decide +kernel) rfl
theorem wi_382_132 : ri (rt_P sc fm) 382 132 (.if_icmp .eq 8) (135) := ri_of (by decide +kernel) rfl
theorem wi_382_135 : ri (rt_P sc fm) 382 135 (.aload_n 0) (136) := ri_of (by decide +kernel) rfl
theorem wi_382_136 : ri (rt_P sc fm) 382 136 (.invokevirtual 480) (139) := ri_of (by decide +kernel) rfl
theorem wi_382_139 : ri (rt_P sc fm) 382 139 (.return_) (140) := ri_of (by decide +kernel) rfl
theorem wi_382_14 : ri (rt_P sc fm) 382 14 (.getfield 84) (17) := ri_of (by decide +kernel) rfl
theorem wi_382_140 : ri (rt_P sc fm) 382 140 (.aload_n 0) (141) := ri_of (by decide +kernel) rfl
theorem wi_382_141 : ri (rt_P sc fm) 382 141 (.iload 6) (143) := ri_of (by decide +kernel) rfl
theorem wi_382_143 : ri (rt_P sc fm) 382 143 (.ifCond .eq 16) (146) := ri_of (by decide +kernel) rfl
theorem wi_382_146 : ri (rt_P sc fm) 382 146 (.aload_n 0) (147) := ri_of (by decide +kernel) rfl
theorem wi_382_147 : ri (rt_P sc fm) 382 147 (.getfield 90) (150) := ri_of (by decide +kernel) rfl
theorem wi_382_150 : ri (rt_P sc fm) 382 150 (.aload_n 0) (151) := ri_of (by decide +kernel) rfl
theorem wi_382_151 : ri (rt_P sc fm) 382 151 (.getfield 471) (154) := ri_of (by decide +kernel) rfl
theorem wi_382_154 : ri (rt_P sc fm) 382 154 (.laload) (155) := ri_of (by decide +kernel) rfl
theorem wi_382_155 : ri (rt_P sc fm) 382 155 (.lneg) (156) := ri_of (by decide +kernel) rfl
theorem wi_382_156 : ri (rt_P sc fm) 382 156 (.goto 12) (159) := ri_of (by decide +kernel) rfl
theorem wi_382_159 : ri (rt_P sc fm) 382 159 (.aload_n 0) (160) := ri_of (by decide +kernel) rfl
theorem wi_382_160 : ri (rt_P sc fm) 382 160 (.getfield 90) (163) := ri_of (by decide +kernel) rfl
theorem wi_382_163 : ri (rt_P sc fm) 382 163 (.aload_n 0) (164) := ri_of (by decide +kernel) rfl
theorem wi_382_164 : ri (rt_P sc fm) 382 164 (.getfield 471) (167) := ri_of (by decide +kernel) rfl
theorem wi_382_167 : ri (rt_P sc fm) 382 167 (.laload) (168) := ri_of (by decide +kernel) rfl
theorem wi_382_168 : ri (rt_P sc fm) 382 168 (.putfield 486) (171) := ri_of (by decide +kernel) rfl
theorem wi_382_17 : ri (rt_P sc fm) 382 17 (.aload_n 0) (18) := ri_of (by decide +kernel) rfl
theorem wi_382_171 : ri (rt_P sc fm) 382 171 (.aload_n 0) (172) := ri_of (by decide +kernel) rfl
theorem wi_382_172 : ri (rt_P sc fm) 382 172 (.dup) (173) := ri_of (by decide +kernel) rfl
theorem wi_382_173 : ri (rt_P sc fm) 382 173 (.getfield 471) (176) := ri_of (by decide +kernel) rfl
theorem wi_382_176 : ri (rt_P sc fm) 382 176 (.iconst 1) (177) := ri_of (by decide +kernel) rfl
theorem wi_382_177 : ri (rt_P sc fm) 382 177 (.iadd) (178) := ri_of (by decide +kernel) rfl
theorem wi_382_178 : ri (rt_P sc fm) 382 178 (.putfield 471) (181) := ri_of (by decide +kernel) rfl
theorem wi_382_18 : ri (rt_P sc fm) 382 18 (.getfield 471) (21) := ri_of (by decide +kernel) rfl
theorem wi_382_181 : ri (rt_P sc fm) 382 181 (.return_) (182) := ri_of (by decide +kernel) rfl
theorem wi_382_21 : ri (rt_P sc fm) 382 21 (.iaload) (22) := ri_of (by decide +kernel) rfl
theorem wi_382_22 : ri (rt_P sc fm) 382 22 (.iconst 2) (23) := ri_of (by decide +kernel) rfl
theorem wi_382_23 : ri (rt_P sc fm) 382 23 (.if_icmp .ne 7) (26) := ri_of (by decide +kernel) rfl
theorem wi_382_26 : ri (rt_P sc fm) 382 26 (.iconst 1) (27) := ri_of (by decide +kernel) rfl
theorem wi_382_27 : ri (rt_P sc fm) 382 27 (.goto 4) (30) := ri_of (by decide +kernel) rfl
theorem wi_382_30 : ri (rt_P sc fm) 382 30 (.iconst 0) (31) := ri_of (by decide +kernel) rfl
theorem wi_382_31 : ri (rt_P sc fm) 382 31 (.istore 4) (33) := ri_of (by decide +kernel) rfl
theorem wi_382_33 : ri (rt_P sc fm) 382 33 (.aload_n 0) (34) := ri_of (by decide +kernel) rfl
theorem wi_382_34 : ri (rt_P sc fm) 382 34 (.getfield 84) (37) := ri_of (by decide +kernel) rfl
theorem wi_382_37 : ri (rt_P sc fm) 382 37 (.aload_n 0) (38) := ri_of (by decide +kernel) rfl
theorem wi_382_38 : ri (rt_P sc fm) 382 38 (.getfield 471) (41) := ri_of (by decide +kernel) rfl
theorem wi_382_4 : ri (rt_P sc fm) 382 4 (.ifCond .eq 4) (7) := ri_of (by decide +kernel) rfl
theorem wi_382_41 : ri (rt_P sc fm) 382 41 (.iaload) (42) := ri_of (by decide +kernel) rfl
theorem wi_382_42 : ri (rt_P sc fm) 382 42 (.iconst 1) (43) := ri_of (by decide +kernel) rfl
theorem wi_382_43 : ri (rt_P sc fm) 382 43 (.if_icmp .eq 12) (46) := ri_of (by decide +kernel) rfl
theorem wi_382_46 : ri (rt_P sc fm) 382 46 (.aload_n 0) (47) := ri_of (by decide +kernel) rfl
theorem wi_382_47 : ri (rt_P sc fm) 382 47 (.bipush 45) (49) := ri_of (by decide +kernel) rfl
theorem wi_382_49 : ri (rt_P sc fm) 382 49 (.invokevirtual 477) (52) := ri_of (by decide +kernel) rfl
theorem wi_382_52 : ri (rt_P sc fm) 382 52 (.ifCond .eq 7) (55) := ri_of (by decide +kernel) rfl
theorem wi_382_55 : ri (rt_P sc fm) 382 55 (.iconst 1) (56) := ri_of (by decide +kernel) rfl
theorem wi_382_56 : ri (rt_P sc fm) 382 56 (.goto 4) (59) := ri_of (by decide +kernel) rfl
theorem wi_382_59 : ri (rt_P sc fm) 382 59 (.iconst 0) (60) := ri_of (by decide +kernel) rfl
theorem wi_382_60 : ri (rt_P sc fm) 382 60 (.istore 5) (62) := ri_of (by decide +kernel) rfl
theorem wi_382_62 : ri (rt_P sc fm) 382 62 (.iload 4) (64) := ri_of (by decide +kernel) rfl
theorem wi_382_64 : ri (rt_P sc fm) 382 64 (.ifCond .ne 8) (67) := ri_of (by decide +kernel) rfl
theorem wi_382_67 : ri (rt_P sc fm) 382 67 (.iload 5) (69) := ri_of (by decide +kernel) rfl
theorem wi_382_69 : ri (rt_P sc fm) 382 69 (.ifCond .eq 13) (72) := ri_of (by decide +kernel) rfl
theorem wi_382_7 : ri (rt_P sc fm) 382 7 (.return_) (8) := ri_of (by decide +kernel) rfl
theorem wi_382_72 : ri (rt_P sc fm) 382 72 (.iload_n 2) (73) := ri_of (by decide +kernel) rfl
theorem wi_382_73 : ri (rt_P sc fm) 382 73 (.ifCond .ne 14) (76) := ri_of (by decide +kernel) rfl
theorem wi_382_76 : ri (rt_P sc fm) 382 76 (.iload 4) (78) := ri_of (by decide +kernel) rfl
theorem wi_382_78 : ri (rt_P sc fm) 382 78 (.iload_n 1) (79) := ri_of (by decide +kernel) rfl
theorem wi_382_79 : ri (rt_P sc fm) 382 79 (.if_icmp .eq 8) (82) := ri_of (by decide +kernel) rfl
theorem wi_382_8 : ri (rt_P sc fm) 382 8 (.aload_n 0) (9) := ri_of (by decide +kernel) rfl
theorem wi_382_82 : ri (rt_P sc fm) 382 82 (.aload_n 0) (83) := ri_of (by decide +kernel) rfl
theorem wi_382_83 : ri (rt_P sc fm) 382 83 (.invokevirtual 480) (86) := ri_of (by decide +kernel) rfl
theorem wi_382_86 : ri (rt_P sc fm) 382 86 (.return_) (87) := ri_of (by decide +kernel) rfl
theorem wi_382_87 : ri (rt_P sc fm) 382 87 (.iload_n 2) (88) := ri_of (by decide +kernel) rfl
theorem wi_382_88 : ri (rt_P sc fm) 382 88 (.ifCond .eq 22) (91) := ri_of (by decide +kernel) rfl
theorem wi_382_9 : ri (rt_P sc fm) 382 9 (.getfield 471) (12) := ri_of (by decide +kernel) rfl
theorem wi_382_91 : ri (rt_P sc fm) 382 91 (.iload 4) (93) := ri_of (by decide +kernel) rfl
theorem wi_382_93 : ri (rt_P sc fm) 382 93 (.iload_n 1) (94) := ri_of (by decide +kernel) rfl
theorem wi_382_94 : ri (rt_P sc fm) 382 94 (.if_icmp .eq 16) (97) := ri_of (by decide +kernel) rfl
theorem wi_382_97 : ri (rt_P sc fm) 382 97 (.aload_n 0) (98) := ri_of (by decide +kernel) rfl
theorem wi_382_98 : ri (rt_P sc fm) 382 98 (.bipush 7) (100) := ri_of (by decide +kernel) rfl
theorem wp_382_471 : rx_pt (rt_P sc fm) 382 471 = some (15, 67, .int) := (by decide +kernel : rt_pt 382 471 = some (15, 67, .int))
theorem wp_382_486 : rx_pt (rt_P sc fm) 382 486 = some (15, 68, .long) := (by decide +kernel : rt_pt 382 486 = some (15, 68, .long))
theorem wr_382 : rx_rt (rt_P sc fm) 382 = none := (by decide +kernel : rt_rt 382 = none)
/-- MarkHouseModel.wantValue(ZZ)V -/
def d_382 (n : Nat) (a1 : Int32) (a2 : Int32) (c : cS) : Option (cS) :=
  if (c.1 174 13) = 0 then
    lt ((c.1 174 67) : Int32) (fun v2 =>
    if ib (c.1 174 67) 4001 then
    jn (fun p5 : Int32 =>
      if ib (c.1 174 67) 4001 then
      jn (fun p8 : Int32 =>
        jn (fun p10 : Unit =>
          Option.bind (d_103 n c) (fun r11 =>
          some r11))
        (fun j82 =>
        jn (fun p12 : Unit =>
          jn (fun p13 : Unit =>
            jn (fun p14 : Unit =>
              Option.bind (d_379 n 45 c) (fun r15 =>
              jn (fun p17 : Unit =>
                jn (fun p18 : Int64 =>
                  lt (pL r15.2 174 68 p18) (fun c19 =>
                  lt (pI c19 174 67 ((c19.1 174 67) + 1)) (fun c21 =>
                  some c21)))
                (fun j168 =>
                if r15.1 = 0 then
                  if ib (r15.2.1 174 67) 4001 then
                  j168 (r15.2.2 180 (ix (r15.2.1 174 67)))
                  else none
                else
                  if ib (r15.2.1 174 67) 4001 then
                  j168 (-(r15.2.2 180 (ix (r15.2.1 174 67))))
                  else none))
              (fun j140 =>
              if a1 = 0 then
                if ib (r15.2.1 174 67) 4001 then
                if (r15.2.1 178 (ix (r15.2.1 174 67))) = 1 then
                  j140 ()
                else
                  Option.bind (d_103 n r15.2) (fun r26 =>
                  some r26)
                else none
              else
                j140 ())))
            (fun j110 =>
            if a2 = 0 then
              j110 ()
            else
              if p5 = a1 then
                j110 ()
              else
                if ib v2 4001 then
                Option.bind (d_97 n 7 (c.1 179 (ix v2)) c) (fun r28 =>
                some r28)
                else none))
          (fun j87 =>
          if a2 = 0 then
            if p5 = a1 then
              j87 ()
            else
              j82 ()
          else
            j87 ()))
        (fun j72 =>
        if p5 = 0 then
          if p8 = 0 then
            j82 ()
          else
            j72 ()
        else
          j72 ())))
      (fun j60 =>
      jn (fun p29 : Unit =>
        j60 1)
      (fun j55 =>
      if (c.1 178 (ix (c.1 174 67))) = 1 then
        j55 ()
      else
        Option.bind (d_101 n 45 c) (fun v30 =>
        if v30 = 0 then
          j60 0
        else
          j55 ())))
      else none)
    (fun j31 =>
    if (c.1 178 (ix (c.1 174 67))) = 2 then
      j31 1
    else
      j31 0)
    else none)
  else
    some c
set_option maxRecDepth 100000 in
set_option maxHeartbeats 4000000 in
theorem sp_382 {F Lo n : Nat} {a1 : Int32} {a2 : Int32} {c y : cS} {w : cW} {K : cS → Prop} {Q : ((Option Value) ⊕ String) → List va_E → Prop} (hw : rOK fm w) (hF : 2 ≤ F) (hLo : 42 ≤ Lo)  (h : wp (d_382 n a1 a2 c) K) (hQ : ∀ r, K r → Q (.inl none) (hq false r y w)) : rs (rt_P sc fm) 382 F Lo 0 [(0, .ref 174), (1, .int a1), (2, .int a2)] [] (hq false c y w) Q := by
  unfold d_382 at h
  obtain ⟨lv, elv⟩ : ∃ lv : rx_L, lv = [(0, .ref 174), (1, .int a1), (2, .int a2)] := ⟨_, rfl⟩
  rw [← elv]
  have l0 : rx_ld lv 0 = some (.ref 174) := by rw [elv]; rfl
  have l1 : rx_ld lv 1 = some (.int a1) := by rw [elv]; rfl
  have l2 : rx_ld lv 2 = some (.int a2) := by rw [elv]; rfl
  refine rs_aldn wi_382_0 l0 ?_
  refine dq_gi wi_382_1 wf_382_409 tf_174_13 ?_
  refine rs_ifeq (tg := 8) wi_382_4 ⟨by decide, by decide⟩ (fun q => ?_) (fun q => ?_)
  ·
    have h := wp_pos h q
    refine rs_aldn wi_382_8 l0 ?_
    refine dq_gi wi_382_9 wf_382_471 tf_174_67 ?_
    obtain ⟨v2, e3, h⟩ := wp_lt h
    refine rs_topi e3 ?_
    refine dl_istn wi_382_12 rfl (fun lv l3 t1 => ?_)
    have l0 := t1 _ _ (by decide) (Or.inl rfl) l0
    have l1 := t1 _ _ (by decide) (Or.inl rfl) l1
    have l2 := t1 _ _ (by decide) (Or.inl rfl) l2
    refine rs_aldn wi_382_13 l0 ?_
    refine dq_gr wi_382_14 wf_382_84 tf_174_8 ?_
    refine rs_aldn wi_382_17 l0 ?_
    refine dq_gi wi_382_18 wf_382_471 tf_174_67 ?_
    obtain ⟨g4, h⟩ := wp_gd h
    refine dq_iald wi_382_21 t_178 g4 ?_
    refine rs_pure wi_382_22 rfl ?_
    refine rs_topi (v := 2) (by decide) ?_
    refine wp_jn (B := fun p5 : Int32 => ∀ lv, rx_ld lv 0 = some (.ref 174) → rx_ld lv 1 = some (.int a1) → rx_ld lv 2 = some (.int a2) → rx_ld lv 3 = some (.int v2) → rs (rt_P sc fm) 382 F Lo 31 lv [.int p5] (hq false c y w) Q) h (fun p5 h lv l0 l1 l2 l3 => ?_) (fun j31 hj31 h => ?_)
    ·
      refine dl_ist wi_382_31 rfl (fun lv l4 t6 => ?_)
      have l0 := t6 _ _ (by decide) (Or.inl rfl) l0
      have l1 := t6 _ _ (by decide) (Or.inl rfl) l1
      have l2 := t6 _ _ (by decide) (Or.inl rfl) l2
      have l3 := t6 _ _ (by decide) (Or.inl rfl) l3
      refine rs_aldn wi_382_33 l0 ?_
      refine dq_gr wi_382_34 wf_382_84 tf_174_8 ?_
      refine rs_aldn wi_382_37 l0 ?_
      refine dq_gi wi_382_38 wf_382_471 tf_174_67 ?_
      obtain ⟨g7, h⟩ := wp_gd h
      refine dq_iald wi_382_41 t_178 g7 ?_
      refine rs_pure wi_382_42 rfl ?_
      refine rs_topi (v := 1) (by decide) ?_
      refine wp_jn (B := fun p8 : Int32 => ∀ lv, rx_ld lv 0 = some (.ref 174) → rx_ld lv 1 = some (.int a1) → rx_ld lv 2 = some (.int a2) → rx_ld lv 3 = some (.int v2) → rx_ld lv 4 = some (.int p5) → rs (rt_P sc fm) 382 F Lo 60 lv [.int p8] (hq false c y w) Q) h (fun p8 h lv l0 l1 l2 l3 l4 => ?_) (fun j60 hj60 h => ?_)
      ·
        refine dl_ist wi_382_60 rfl (fun lv l5 t9 => ?_)
        have l0 := t9 _ _ (by decide) (Or.inl rfl) l0
        have l1 := t9 _ _ (by decide) (Or.inl rfl) l1
        have l2 := t9 _ _ (by decide) (Or.inl rfl) l2
        have l3 := t9 _ _ (by decide) (Or.inl rfl) l3
        have l4 := t9 _ _ (by decide) (Or.inl rfl) l4
        refine rs_ild wi_382_62 l4 ?_
        refine wp_jn (B := fun p10 : Unit => ∀ lv, rx_ld lv 0 = some (.ref 174) → rs (rt_P sc fm) 382 F Lo 82 lv [] (hq false c y w) Q) h (fun p10 h lv l0 => ?_) (fun j82 hj82 h => ?_)
        ·
          refine rs_aldn wi_382_82 l0 ?_
          refine rs_V wi_382_83 wc_382_480 rfl (dq_isa tf_174_0 wa_15_103) (Nat.le_trans (by decide) hF) (ml_le wm_103 (Nat.le_trans (by decide) hLo)) rfl (sp_103 hw (Nat.le_trans (by decide : 1 ≤ 2 - 1) (Nat.sub_le_sub_right hF 1)) (ml_sub wm_103 (Nat.le_trans (by decide : 22 ≤ 42 - 20) (Nat.sub_le_sub_right hLo 20))) (wp_bind h) (fun r11 h => rs_back0 ?_))
          exact rs_vret wi_382_86 wr_382 (hQ r11 h)
        refine wp_jn (B := fun p12 : Unit => ∀ lv, rx_ld lv 0 = some (.ref 174) → rx_ld lv 1 = some (.int a1) → rx_ld lv 2 = some (.int a2) → rx_ld lv 3 = some (.int v2) → rx_ld lv 4 = some (.int p5) → rs (rt_P sc fm) 382 F Lo 72 lv [] (hq false c y w) Q) h (fun p12 h lv l0 l1 l2 l3 l4 => ?_) (fun j72 hj72 h => ?_)
        ·
          refine rs_ildn wi_382_72 l2 ?_
          refine wp_jn (B := fun p13 : Unit => ∀ lv, rx_ld lv 0 = some (.ref 174) → rx_ld lv 1 = some (.int a1) → rx_ld lv 2 = some (.int a2) → rx_ld lv 3 = some (.int v2) → rx_ld lv 4 = some (.int p5) → rs (rt_P sc fm) 382 F Lo 87 lv [] (hq false c y w) Q) h (fun p13 h lv l0 l1 l2 l3 l4 => ?_) (fun j87 hj87 h => ?_)
          ·
            refine rs_ildn wi_382_87 l2 ?_
            refine wp_jn (B := fun p14 : Unit => ∀ lv, rx_ld lv 0 = some (.ref 174) → rx_ld lv 1 = some (.int a1) → rs (rt_P sc fm) 382 F Lo 110 lv [] (hq false c y w) Q) h (fun p14 h lv l0 l1 => ?_) (fun j110 hj110 h => ?_)
            ·
              refine rs_aldn wi_382_110 l0 ?_
              refine rs_pure wi_382_111 rfl ?_
              refine rs_topi (v := 45) (by decide) ?_
              refine rs_V wi_382_113 wc_382_483 rfl (dq_isa tf_174_0 wa_15_379) (Nat.le_trans (by decide) hF) (ml_le wm_379 (Nat.le_trans (by decide) hLo)) rfl (sp_379 hw (Nat.le_trans (by decide : 1 ≤ 2 - 1) (Nat.sub_le_sub_right hF 1)) (ml_sub wm_379 (Nat.le_trans (by decide : 21 ≤ 42 - 21) (Nat.sub_le_sub_right hLo 21))) (wp_bind h) (fun r15 h => rs_back1 ?_))
              refine dl_ist wi_382_116 rfl (fun lv l6 t16 => ?_)
              have l0 := t16 _ _ (by decide) (Or.inl rfl) l0
              have l1 := t16 _ _ (by decide) (Or.inl rfl) l1
              refine rs_ildn wi_382_118 l1 ?_
              refine wp_jn (B := fun p17 : Unit => ∀ lv, rx_ld lv 0 = some (.ref 174) → rx_ld lv 6 = some (.int r15.1) → rs (rt_P sc fm) 382 F Lo 140 lv [] (hq false r15.2 y w) Q) h (fun p17 h lv l0 l6 => ?_) (fun j140 hj140 h => ?_)
              ·
                refine rs_aldn wi_382_140 l0 ?_
                refine rs_ild wi_382_141 l6 ?_
                refine wp_jn (B := fun p18 : Int64 => ∀ lv, rx_ld lv 0 = some (.ref 174) → rs (rt_P sc fm) 382 F Lo 168 lv [.long p18, .ref 174] (hq false r15.2 y w) Q) h (fun p18 h lv l0 => ?_) (fun j168 hj168 h => ?_)
                ·
                  obtain ⟨c19, e20, h⟩ := wp_lt h
                  refine dq_pl wi_382_168 wp_382_486 tf_174_68 rfl rfl e20 ?_
                  refine rs_aldn wi_382_171 l0 ?_
                  refine rs_pure wi_382_172 rfl ?_
                  refine dq_gi wi_382_173 wf_382_471 tf_174_67 ?_
                  refine rs_pure wi_382_176 rfl ?_
                  refine rs_topi (v := 1) (by decide) ?_
                  refine rs_pure wi_382_177 rfl ?_
                  obtain ⟨c21, e22, h⟩ := wp_lt h
                  refine dq_pi wi_382_178 wp_382_471 tf_174_67 rfl rfl e22 ?_
                  exact rs_vret wi_382_181 wr_382 (hQ c21 h)
                refine rs_ifeq (tg := 159) wi_382_143 ⟨by decide, by decide⟩ (fun q => ?_) (fun q => ?_)
                ·
                  have h := wp_pos h q
                  refine rs_aldn wi_382_159 l0 ?_
                  refine dq_gr wi_382_160 wf_382_90 tf_174_10 ?_
                  refine rs_aldn wi_382_163 l0 ?_
                  refine dq_gi wi_382_164 wf_382_471 tf_174_67 ?_
                  obtain ⟨g23, h⟩ := wp_gd h
                  refine dq_lald wi_382_167 t_180 g23 ?_
                  exact hj168 _ h _ l0
                ·
                  have h := wp_neg h q
                  refine rs_aldn wi_382_146 l0 ?_
                  refine dq_gr wi_382_147 wf_382_90 tf_174_10 ?_
                  refine rs_aldn wi_382_150 l0 ?_
                  refine dq_gi wi_382_151 wf_382_471 tf_174_67 ?_
                  obtain ⟨g24, h⟩ := wp_gd h
                  refine dq_lald wi_382_154 t_180 g24 ?_
                  refine rs_pure wi_382_155 rfl ?_
                  refine rs_goto (tg := 168) wi_382_156 ⟨by decide, by decide⟩ ?_
                  exact hj168 _ h _ l0
              refine rs_ifne (tg := 140) wi_382_119 ⟨by decide, by decide⟩ (fun q => ?_) (fun q => ?_)
              ·
                have h := wp_neg h q
                exact hj140 _ h _ l0 l6
              ·
                have h := wp_pos h q
                refine rs_aldn wi_382_122 l0 ?_
                refine dq_gr wi_382_123 wf_382_84 tf_174_8 ?_
                refine rs_aldn wi_382_126 l0 ?_
                refine dq_gi wi_382_127 wf_382_471 tf_174_67 ?_
                obtain ⟨g25, h⟩ := wp_gd h
                refine dq_iald wi_382_130 t_178 g25 ?_
                refine rs_pure wi_382_131 rfl ?_
                refine rs_topi (v := 1) (by decide) ?_
                refine rs_iceq (tg := 140) wi_382_132 ⟨by decide, by decide⟩ (fun q => ?_) (fun q => ?_)
                ·
                  have h := wp_pos h q
                  exact hj140 _ h _ l0 l6
                ·
                  have h := wp_neg h q
                  refine rs_aldn wi_382_135 l0 ?_
                  refine rs_V wi_382_136 wc_382_480 rfl (dq_isa tf_174_0 wa_15_103) (Nat.le_trans (by decide) hF) (ml_le wm_103 (Nat.le_trans (by decide) hLo)) rfl (sp_103 hw (Nat.le_trans (by decide : 1 ≤ 2 - 1) (Nat.sub_le_sub_right hF 1)) (ml_sub wm_103 (Nat.le_trans (by decide : 22 ≤ 42 - 20) (Nat.sub_le_sub_right hLo 20))) (wp_bind h) (fun r26 h => rs_back0 ?_))
                  exact rs_vret wi_382_139 wr_382 (hQ r26 h)
            refine rs_ifeq (tg := 110) wi_382_88 ⟨by decide, by decide⟩ (fun q => ?_) (fun q => ?_)
            ·
              have h := wp_pos h q
              exact hj110 _ h _ l0 l1
            ·
              have h := wp_neg h q
              refine rs_ild wi_382_91 l4 ?_
              refine rs_ildn wi_382_93 l1 ?_
              refine rs_iceq (tg := 110) wi_382_94 ⟨by decide, by decide⟩ (fun q => ?_) (fun q => ?_)
              ·
                have h := wp_pos h q
                exact hj110 _ h _ l0 l1
              ·
                have h := wp_neg h q
                refine rs_aldn wi_382_97 l0 ?_
                refine rs_pure wi_382_98 rfl ?_
                refine rs_topi (v := 7) (by decide) ?_
                refine rs_aldn wi_382_100 l0 ?_
                refine dq_gr wi_382_101 wf_382_87 tf_174_9 ?_
                refine rs_ildn wi_382_104 l3 ?_
                obtain ⟨g27, h⟩ := wp_gd h
                refine dq_iald wi_382_105 t_179 g27 ?_
                refine rs_V wi_382_106 wc_382_432 rfl (dq_isa tf_174_0 wa_15_97) (Nat.le_trans (by decide) hF) (ml_le wm_97 (Nat.le_trans (by decide) hLo)) rfl (sp_97 hw (Nat.le_trans (by decide : 0 ≤ 2 - 1) (Nat.sub_le_sub_right hF 1)) (ml_sub wm_97 (Nat.le_trans (by decide : 0 ≤ 42 - 22) (Nat.sub_le_sub_right hLo 22))) (wp_bind h) (fun r28 h => rs_back0 ?_))
                exact rs_vret wi_382_109 wr_382 (hQ r28 h)
          refine rs_ifne (tg := 87) wi_382_73 ⟨by decide, by decide⟩ (fun q => ?_) (fun q => ?_)
          ·
            have h := wp_neg h q
            exact hj87 _ h _ l0 l1 l2 l3 l4
          ·
            have h := wp_pos h q
            refine rs_ild wi_382_76 l4 ?_
            refine rs_ildn wi_382_78 l1 ?_
            refine rs_iceq (tg := 87) wi_382_79 ⟨by decide, by decide⟩ (fun q => ?_) (fun q => ?_)
            ·
              have h := wp_pos h q
              exact hj87 _ h _ l0 l1 l2 l3 l4
            ·
              have h := wp_neg h q
              exact hj82 _ h _ l0
        refine rs_ifne (tg := 72) wi_382_64 ⟨by decide, by decide⟩ (fun q => ?_) (fun q => ?_)
        ·
          have h := wp_neg h q
          exact hj72 _ h _ l0 l1 l2 l3 l4
        ·
          have h := wp_pos h q
          refine rs_ild wi_382_67 l5 ?_
          refine rs_ifeq (tg := 82) wi_382_69 ⟨by decide, by decide⟩ (fun q => ?_) (fun q => ?_)
          ·
            have h := wp_pos h q
            exact hj82 _ h _ l0
          ·
            have h := wp_neg h q
            exact hj72 _ h _ l0 l1 l2 l3 l4
      refine wp_jn (B := fun p29 : Unit => ∀ lv, rx_ld lv 0 = some (.ref 174) → rx_ld lv 1 = some (.int a1) → rx_ld lv 2 = some (.int a2) → rx_ld lv 3 = some (.int v2) → rx_ld lv 4 = some (.int p5) → rs (rt_P sc fm) 382 F Lo 55 lv [] (hq false c y w) Q) h (fun p29 h lv l0 l1 l2 l3 l4 => ?_) (fun j55 hj55 h => ?_)
      ·
        refine rs_pure wi_382_55 rfl ?_
        refine rs_topi (v := 1) (by decide) ?_
        refine rs_goto (tg := 60) wi_382_56 ⟨by decide, by decide⟩ ?_
        exact hj60 _ h _ l0 l1 l2 l3 l4
      refine rs_iceq (tg := 55) wi_382_43 ⟨by decide, by decide⟩ (fun q => ?_) (fun q => ?_)
      ·
        have h := wp_pos h q
        exact hj55 _ h _ l0 l1 l2 l3 l4
      ·
        have h := wp_neg h q
        refine rs_aldn wi_382_46 l0 ?_
        refine rs_pure wi_382_47 rfl ?_
        refine rs_topi (v := 45) (by decide) ?_
        refine rs_V wi_382_49 wc_382_477 rfl (dq_isa tf_174_0 wa_15_101) (Nat.le_trans (by decide) hF) (ml_le wm_101 (Nat.le_trans (by decide) hLo)) rfl (sp_101 hw (Nat.le_trans (by decide : 0 ≤ 2 - 1) (Nat.sub_le_sub_right hF 1)) (ml_sub wm_101 (Nat.le_trans (by decide : 0 ≤ 42 - 21) (Nat.sub_le_sub_right hLo 21))) (wp_bind h) (fun v30 h => rs_back1 ?_))
        refine rs_ifeq (tg := 59) wi_382_52 ⟨by decide, by decide⟩ (fun q => ?_) (fun q => ?_)
        ·
          have h := wp_pos h q
          refine rs_pure wi_382_59 rfl ?_
          refine rs_topi (v := 0) (by decide) ?_
          exact hj60 _ h _ l0 l1 l2 l3 l4
        ·
          have h := wp_neg h q
          exact hj55 _ h _ l0 l1 l2 l3 l4
    refine rs_icne (tg := 30) wi_382_23 ⟨by decide, by decide⟩ (fun q => ?_) (fun q => ?_)
    ·
      have h := wp_neg h q
      refine rs_pure wi_382_30 rfl ?_
      refine rs_topi (v := 0) (by decide) ?_
      exact hj31 _ h _ l0 l1 l2 l3
    ·
      have h := wp_pos h q
      refine rs_pure wi_382_26 rfl ?_
      refine rs_topi (v := 1) (by decide) ?_
      refine rs_goto (tg := 31) wi_382_27 ⟨by decide, by decide⟩ ?_
      exact hj31 _ h _ l0 l1 l2 l3
  ·
    have h := wp_neg h q
    exact rs_vret wi_382_7 wr_382 (hQ c h)
theorem t_192 : ta false 192 3 48 := ⟨rfl, by decide, by decide⟩
theorem t_193 : ta false 193 3 48 := ⟨rfl, by decide, by decide⟩
theorem t_194 : ta false 194 1 48 := ⟨rfl, by decide, by decide⟩
theorem tf_174_28 : fo false 174 15 28 (.ref 192) := ⟨_, rfl, rfl, by decide, by decide⟩
theorem tf_174_29 : fo false 174 15 29 (.ref 193) := ⟨_, rfl, rfl, by decide, by decide⟩
theorem tf_174_30 : fo false 174 15 30 (.ref 194) := ⟨_, rfl, rfl, by decide, by decide⟩
theorem wa_15_102 : rz_cn 15 (rx_yn (rt_P sc fm) 102).cls = true := (by decide +kernel : rz_cn 15 (rt_yn 102).cls = true)
theorem wa_15_378 : rz_cn 15 (rx_yn (rt_P sc fm) 378).cls = true := (by decide +kernel : rz_cn 15 (rt_yn 378).cls = true)
theorem wa_15_382 : rz_cn 15 (rx_yn (rt_P sc fm) 382).cls = true := (by decide +kernel : rz_cn 15 (rt_yn 382).cls = true)
theorem wc_401_432 : rx_ct (rt_P sc fm) 401 432 = some (0, 97, 2) := (by decide +kernel : rt_ct 401 432 = some (0, 97, 2))
theorem wc_401_474 : rx_ct (rt_P sc fm) 401 474 = some (0, 100, 1) := (by decide +kernel : rt_ct 401 474 = some (0, 100, 1))
theorem wc_401_480 : rx_ct (rt_P sc fm) 401 480 = some (0, 103, 0) := (by decide +kernel : rt_ct 401 480 = some (0, 103, 0))
theorem wc_401_483 : rx_ct (rt_P sc fm) 401 483 = some (0, 379, 1) := (by decide +kernel : rt_ct 401 483 = some (0, 379, 1))
theorem wc_401_490 : rx_ct (rt_P sc fm) 401 490 = some (0, 102, 1) := (by decide +kernel : rt_ct 401 490 = some (0, 102, 1))
theorem wc_401_505 : rx_ct (rt_P sc fm) 401 505 = some (0, 381, 0) := (by decide +kernel : rt_ct 401 505 = some (0, 381, 0))
theorem wc_401_521 : rx_ct (rt_P sc fm) 401 521 = some (0, 380, 1) := (by decide +kernel : rt_ct 401 521 = some (0, 380, 1))
theorem wc_401_568 : rx_ct (rt_P sc fm) 401 568 = some (0, 378, 2) := (by decide +kernel : rt_ct 401 568 = some (0, 378, 2))
theorem wc_401_571 : rx_ct (rt_P sc fm) 401 571 = some (0, 382, 2) := (by decide +kernel : rt_ct 401 571 = some (0, 382, 2))
theorem wf_401_122 : rx_ft (rt_P sc fm) 401 122 = some (15, 26) := (by decide +kernel : rt_ft 401 122 = some (15, 26))
theorem wf_401_125 : rx_ft (rt_P sc fm) 401 125 = some (15, 27) := (by decide +kernel : rt_ft 401 125 = some (15, 27))
theorem wf_401_128 : rx_ft (rt_P sc fm) 401 128 = some (15, 28) := (by decide +kernel : rt_ft 401 128 = some (15, 28))
theorem wf_401_131 : rx_ft (rt_P sc fm) 401 131 = some (15, 29) := (by decide +kernel : rt_ft 401 131 = some (15, 29))
theorem wf_401_134 : rx_ft (rt_P sc fm) 401 134 = some (15, 30) := (by decide +kernel : rt_ft 401 134 = some (15, 30))
theorem wf_401_409 : rx_ft (rt_P sc fm) 401 409 = some (15, 13) := (by decide +kernel : rt_ft 401 409 = some (15, 13))
theorem wf_401_471 : rx_ft (rt_P sc fm) 401 471 = some (15, 67) := (by decide +kernel : rt_ft 401 471 = some (15, 67))
theorem wf_401_486 : rx_ft (rt_P sc fm) 401 486 = some (15, 68) := (by decide +kernel : rt_ft 401 486 = some (15, 68))
theorem wf_401_87 : rx_ft (rt_P sc fm) 401 87 = some (15, 9) := (by decide +kernel : rt_ft 401 87 = some (15, 9))
theorem wi_401_0 : ri (rt_P sc fm) 401 0 (.aload_n 0) (1) := ri_of (by decide +kernel) rfl
theorem wi_401_1 : ri (rt_P sc fm) 401 1 (.getfield 471) (4) := ri_of (by decide +kernel) rfl
theorem wi_401_10 : ri (rt_P sc fm) 401 10 (.aload_n 0) (11) := ri_of (by decide +kernel) rfl
theorem wi_401_100 : ri (rt_P sc fm) 401 100 (.aload_n 0) (101) := ri_of (by decide +kernel) rfl
theorem wi_401_101 : ri (rt_P sc fm) 401 101 (.bipush 13) (103) := ri_of (by decide +kernel) rfl
theorem wi_401_103 : ri (rt_P sc fm) 401 103 (.invokevirtual 474) (106) := ri_of (by decide +kernel) rfl
theorem wi_401_106 : ri (rt_P sc fm) 401 106 (.bastore) (107) := ri_of (by decide +kernel) rfl
theorem wi_401_107 : ri (rt_P sc fm) 401 107 (.aload_n 0) (108) := ri_of (by decide +kernel) rfl
theorem wi_401_108 : ri (rt_P sc fm) 401 108 (.bipush 13) (110) := ri_of (by decide +kernel) rfl
theorem wi_401_11 : ri (rt_P sc fm) 401 11 (.getfield 409) (14) := ri_of (by decide +kernel) rfl
theorem wi_401_110 : ri (rt_P sc fm) 401 110 (.invokevirtual 490) (113) := ri_of (by decide +kernel) rfl
theorem wi_401_113 : ri (rt_P sc fm) 401 113 (.ifCond .ne 16) (116) := ri_of (by decide +kernel) rfl
theorem wi_401_116 : ri (rt_P sc fm) 401 116 (.aload_n 0) (117) := ri_of (by decide +kernel) rfl
theorem wi_401_117 : ri (rt_P sc fm) 401 117 (.bipush 12) (119) := ri_of (by decide +kernel) rfl
theorem wi_401_119 : ri (rt_P sc fm) 401 119 (.invokevirtual 490) (122) := ri_of (by decide +kernel) rfl
theorem wi_401_122 : ri (rt_P sc fm) 401 122 (.ifCond .ne 7) (125) := ri_of (by decide +kernel) rfl
theorem wi_401_125 : ri (rt_P sc fm) 401 125 (.aload_n 0) (126) := ri_of (by decide +kernel) rfl
theorem wi_401_126 : ri (rt_P sc fm) 401 126 (.invokevirtual 480) (129) := ri_of (by decide +kernel) rfl
theorem wi_401_129 : ri (rt_P sc fm) 401 129 (.aload_n 0) (130) := ri_of (by decide +kernel) rfl
theorem wi_401_130 : ri (rt_P sc fm) 401 130 (.getfield 131) (133) := ri_of (by decide +kernel) rfl
theorem wi_401_133 : ri (rt_P sc fm) 401 133 (.iload 5) (135) := ri_of (by decide +kernel) rfl
theorem wi_401_135 : ri (rt_P sc fm) 401 135 (.iconst 0) (136) := ri_of (by decide +kernel) rfl
theorem wi_401_136 : ri (rt_P sc fm) 401 136 (.bastore) (137) := ri_of (by decide +kernel) rfl
theorem wi_401_137 : ri (rt_P sc fm) 401 137 (.aload_n 0) (138) := ri_of (by decide +kernel) rfl
theorem wi_401_138 : ri (rt_P sc fm) 401 138 (.bipush 61) (140) := ri_of (by decide +kernel) rfl
theorem wi_401_14 : ri (rt_P sc fm) 401 14 (.ifCond .eq 4) (17) := ri_of (by decide +kernel) rfl
theorem wi_401_140 : ri (rt_P sc fm) 401 140 (.invokevirtual 483) (143) := ri_of (by decide +kernel) rfl
theorem wi_401_143 : ri (rt_P sc fm) 401 143 (.ifCond .eq 34) (146) := ri_of (by decide +kernel) rfl
theorem wi_401_146 : ri (rt_P sc fm) 401 146 (.aload_n 0) (147) := ri_of (by decide +kernel) rfl
theorem wi_401_147 : ri (rt_P sc fm) 401 147 (.aload_n 0) (148) := ri_of (by decide +kernel) rfl
theorem wi_401_148 : ri (rt_P sc fm) 401 148 (.getfield 128) (151) := ri_of (by decide +kernel) rfl
theorem wi_401_151 : ri (rt_P sc fm) 401 151 (.iload 5) (153) := ri_of (by decide +kernel) rfl
theorem wi_401_153 : ri (rt_P sc fm) 401 153 (.baload) (154) := ri_of (by decide +kernel) rfl
theorem wi_401_154 : ri (rt_P sc fm) 401 154 (.iconst 1) (155) := ri_of (by decide +kernel) rfl
theorem wi_401_155 : ri (rt_P sc fm) 401 155 (.invokevirtual 571) (158) := ri_of (by decide +kernel) rfl
theorem wi_401_158 : ri (rt_P sc fm) 401 158 (.aload_n 0) (159) := ri_of (by decide +kernel) rfl
theorem wi_401_159 : ri (rt_P sc fm) 401 159 (.getfield 131) (162) := ri_of (by decide +kernel) rfl
theorem wi_401_162 : ri (rt_P sc fm) 401 162 (.iload 5) (164) := ri_of (by decide +kernel) rfl
theorem wi_401_164 : ri (rt_P sc fm) 401 164 (.iconst 1) (165) := ri_of (by decide +kernel) rfl
theorem wi_401_165 : ri (rt_P sc fm) 401 165 (.bastore) (166) := ri_of (by decide +kernel) rfl
theorem wi_401_166 : ri (rt_P sc fm) 401 166 (.aload_n 0) (167) := ri_of (by decide +kernel) rfl
theorem wi_401_167 : ri (rt_P sc fm) 401 167 (.getfield 134) (170) := ri_of (by decide +kernel) rfl
theorem wi_401_17 : ri (rt_P sc fm) 401 17 (.return_) (18) := ri_of (by decide +kernel) rfl
theorem wi_401_170 : ri (rt_P sc fm) 401 170 (.iload 5) (172) := ri_of (by decide +kernel) rfl
theorem wi_401_172 : ri (rt_P sc fm) 401 172 (.aload_n 0) (173) := ri_of (by decide +kernel) rfl
theorem wi_401_173 : ri (rt_P sc fm) 401 173 (.getfield 486) (176) := ri_of (by decide +kernel) rfl
theorem wi_401_176 : ri (rt_P sc fm) 401 176 (.lastore) (177) := ri_of (by decide +kernel) rfl
theorem wi_401_177 : ri (rt_P sc fm) 401 177 (.aload_n 0) (178) := ri_of (by decide +kernel) rfl
theorem wi_401_178 : ri (rt_P sc fm) 401 178 (.getfield 122) (181) := ri_of (by decide +kernel) rfl
theorem wi_401_18 : ri (rt_P sc fm) 401 18 (.aload_n 0) (19) := ri_of (by decide +kernel) rfl
theorem wi_401_181 : ri (rt_P sc fm) 401 181 (.iload_n 1) (182) := ri_of (by decide +kernel) rfl
theorem wi_401_182 : ri (rt_P sc fm) 401 182 (.dup2) (183) := ri_of (by decide +kernel) rfl
theorem wi_401_183 : ri (rt_P sc fm) 401 183 (.iaload) (184) := ri_of (by decide +kernel) rfl
theorem wi_401_184 : ri (rt_P sc fm) 401 184 (.iconst 1) (185) := ri_of (by decide +kernel) rfl
theorem wi_401_185 : ri (rt_P sc fm) 401 185 (.iadd) (186) := ri_of (by decide +kernel) rfl
theorem wi_401_186 : ri (rt_P sc fm) 401 186 (.iastore) (187) := ri_of (by decide +kernel) rfl
theorem wi_401_187 : ri (rt_P sc fm) 401 187 (.return_) (188) := ri_of (by decide +kernel) rfl
theorem wi_401_19 : ri (rt_P sc fm) 401 19 (.iload_n 1) (20) := ri_of (by decide +kernel) rfl
theorem wi_401_20 : ri (rt_P sc fm) 401 20 (.lload_n 3) (21) := ri_of (by decide +kernel) rfl
theorem wi_401_21 : ri (rt_P sc fm) 401 21 (.invokevirtual 568) (24) := ri_of (by decide +kernel) rfl
theorem wi_401_24 : ri (rt_P sc fm) 401 24 (.ifCond .lt 14) (27) := ri_of (by decide +kernel) rfl
theorem wi_401_27 : ri (rt_P sc fm) 401 27 (.aload_n 0) (28) := ri_of (by decide +kernel) rfl
theorem wi_401_28 : ri (rt_P sc fm) 401 28 (.iconst 3) (29) := ri_of (by decide +kernel) rfl
theorem wi_401_29 : ri (rt_P sc fm) 401 29 (.aload_n 0) (30) := ri_of (by decide +kernel) rfl
theorem wi_401_30 : ri (rt_P sc fm) 401 30 (.getfield 87) (33) := ri_of (by decide +kernel) rfl
theorem wi_401_33 : ri (rt_P sc fm) 401 33 (.iload_n 2) (34) := ri_of (by decide +kernel) rfl
theorem wi_401_34 : ri (rt_P sc fm) 401 34 (.iaload) (35) := ri_of (by decide +kernel) rfl
theorem wi_401_35 : ri (rt_P sc fm) 401 35 (.invokevirtual 432) (38) := ri_of (by decide +kernel) rfl
theorem wi_401_38 : ri (rt_P sc fm) 401 38 (.aload_n 0) (39) := ri_of (by decide +kernel) rfl
theorem wi_401_39 : ri (rt_P sc fm) 401 39 (.getfield 122) (42) := ri_of (by decide +kernel) rfl
theorem wi_401_4 : ri (rt_P sc fm) 401 4 (.istore_n 2) (5) := ri_of (by decide +kernel) rfl
theorem wi_401_42 : ri (rt_P sc fm) 401 42 (.iload_n 1) (43) := ri_of (by decide +kernel) rfl
theorem wi_401_43 : ri (rt_P sc fm) 401 43 (.iaload) (44) := ri_of (by decide +kernel) rfl
theorem wi_401_44 : ri (rt_P sc fm) 401 44 (.iconst 4) (45) := ri_of (by decide +kernel) rfl
theorem wi_401_45 : ri (rt_P sc fm) 401 45 (.if_icmp .ne 15) (48) := ri_of (by decide +kernel) rfl
theorem wi_401_48 : ri (rt_P sc fm) 401 48 (.aload_n 0) (49) := ri_of (by decide +kernel) rfl
theorem wi_401_49 : ri (rt_P sc fm) 401 49 (.bipush 6) (51) := ri_of (by decide +kernel) rfl
theorem wi_401_5 : ri (rt_P sc fm) 401 5 (.aload_n 0) (6) := ri_of (by decide +kernel) rfl
theorem wi_401_51 : ri (rt_P sc fm) 401 51 (.aload_n 0) (52) := ri_of (by decide +kernel) rfl
theorem wi_401_52 : ri (rt_P sc fm) 401 52 (.getfield 87) (55) := ri_of (by decide +kernel) rfl
theorem wi_401_55 : ri (rt_P sc fm) 401 55 (.iload_n 2) (56) := ri_of (by decide +kernel) rfl
theorem wi_401_56 : ri (rt_P sc fm) 401 56 (.iaload) (57) := ri_of (by decide +kernel) rfl
theorem wi_401_57 : ri (rt_P sc fm) 401 57 (.invokevirtual 432) (60) := ri_of (by decide +kernel) rfl
theorem wi_401_6 : ri (rt_P sc fm) 401 6 (.invokevirtual 505) (9) := ri_of (by decide +kernel) rfl
theorem wi_401_60 : ri (rt_P sc fm) 401 60 (.aload_n 0) (61) := ri_of (by decide +kernel) rfl
theorem wi_401_61 : ri (rt_P sc fm) 401 61 (.bipush 58) (63) := ri_of (by decide +kernel) rfl
theorem wi_401_63 : ri (rt_P sc fm) 401 63 (.invokevirtual 521) (66) := ri_of (by decide +kernel) rfl
theorem wi_401_66 : ri (rt_P sc fm) 401 66 (.aload_n 0) (67) := ri_of (by decide +kernel) rfl
theorem wi_401_67 : ri (rt_P sc fm) 401 67 (.getfield 409) (70) := ri_of (by decide +kernel) rfl
theorem wi_401_70 : ri (rt_P sc fm) 401 70 (.ifCond .eq 4) (73) := ri_of (by decide +kernel) rfl
theorem wi_401_73 : ri (rt_P sc fm) 401 73 (.return_) (74) := ri_of (by decide +kernel) rfl
theorem wi_401_74 : ri (rt_P sc fm) 401 74 (.iconst 4) (75) := ri_of (by decide +kernel) rfl
theorem wi_401_75 : ri (rt_P sc fm) 401 75 (.iload_n 1) (76) := ri_of (by decide +kernel) rfl
theorem wi_401_76 : ri (rt_P sc fm) 401 76 (.imul) (77) := ri_of (by decide +kernel) rfl
theorem wi_401_77 : ri (rt_P sc fm) 401 77 (.aload_n 0) (78) := ri_of (by decide +kernel) rfl
theorem wi_401_78 : ri (rt_P sc fm) 401 78 (.getfield 122) (81) := ri_of (by decide +kernel) rfl
theorem wi_401_81 : ri (rt_P sc fm) 401 81 (.iload_n 1) (82) := ri_of (by decide +kernel) rfl
theorem wi_401_82 : ri (rt_P sc fm) 401 82 (.iaload) (83) := ri_of (by decide +kernel) rfl
theorem wi_401_83 : ri (rt_P sc fm) 401 83 (.iadd) (84) := ri_of (by decide +kernel) rfl
theorem wi_401_84 : ri (rt_P sc fm) 401 84 (.istore 5) (86) := ri_of (by decide +kernel) rfl
theorem wi_401_86 : ri (rt_P sc fm) 401 86 (.aload_n 0) (87) := ri_of (by decide +kernel) rfl
theorem wi_401_87 : ri (rt_P sc fm) 401 87 (.getfield 125) (90) := ri_of (by decide +kernel) rfl
theorem wi_401_9 : ri (rt_P sc fm) 401 9 (.lstore_n 3) (10) := ri_of (by decide +kernel) rfl
theorem wi_401_90 : ri (rt_P sc fm) 401 90 (.iload 5) (92) := ri_of (by decide +kernel) rfl
theorem wi_401_92 : ri (rt_P sc fm) 401 92 (.lload_n 3) (93) := ri_of (by decide +kernel) rfl
theorem wi_401_93 : ri (rt_P sc fm) 401 93 (.lastore) (94) := ri_of (by decide +kernel) rfl
theorem wi_401_94 : ri (rt_P sc fm) 401 94 (.aload_n 0) (95) := ri_of (by decide +kernel) rfl
theorem wi_401_95 : ri (rt_P sc fm) 401 95 (.getfield 128) (98) := ri_of (by decide +kernel) rfl
theorem wi_401_98 : ri (rt_P sc fm) 401 98 (.iload 5) (100) := ri_of (by decide +kernel) rfl
theorem wm_102 : rx_ml (rt_P sc fm) 102 = 2 := (by decide +kernel : rt_ml 102 = 2)
theorem wm_378 : rx_ml (rt_P sc fm) 378 = 5 := (by decide +kernel : rt_ml 378 = 5)
theorem wm_382 : rx_ml (rt_P sc fm) 382 = 7 := (by decide +kernel : rt_ml 382 = 7)
theorem wr_401 : rx_rt (rt_P sc fm) 401 = none := (by decide +kernel : rt_rt 401 = none)
/-- MarkHouseModel.readMember(I)V -/
def d_401 (n : Nat) (a1 : Int32) (c : cS) : Option (cS) :=
  lt ((c.1 174 67) : Int32) (fun v2 =>
  Option.bind (d_381 n c) (fun r4 =>
  if (r4.2.1 174 13) = 0 then
    Option.bind (d_378 n a1 r4.1 r4.2) (fun v6 =>
    jn (fun p7 : cS =>
      if ib a1 12 then
      jn (fun p9 : cS =>
        Option.bind (d_380 n 58 p9) (fun r10 =>
        if (r10.1 174 13) = 0 then
          if ib a1 12 then
          lt (((4 * a1) + (r10.1 190 (ix a1))) : Int32) (fun v13 =>
          if ib v13 48 then
          lt (pL r10 191 (ix v13) r4.1) (fun c16 =>
          Option.bind (d_100 n 13 c16) (fun v18 =>
          if ib v13 48 then
          lt (pI c16 192 (ix v13) (vp_nar .boolean v18)) (fun c20 =>
          Option.bind (d_102 n 13 c20) (fun r22 =>
          jn (fun p23 : cS =>
            if ib v13 48 then
            lt (pI p23 193 (ix v13) (vp_nar .boolean 0)) (fun c25 =>
            Option.bind (d_379 n 61 c25) (fun r27 =>
            jn (fun p28 : cS =>
              if ib a1 12 then
              if ib a1 12 then
              lt (pI p28 190 (ix a1) ((p28.1 190 (ix a1)) + 1)) (fun c31 =>
              some c31)
              else none
              else none)
            (fun j177 =>
            if r27.1 = 0 then
              j177 r27.2
            else
              if ib v13 48 then
              Option.bind (d_382 n (r27.2.1 192 (ix v13)) 1 r27.2) (fun r34 =>
              if ib v13 48 then
              lt (pI r34 193 (ix v13) (vp_nar .boolean 1)) (fun c36 =>
              if ib v13 48 then
              lt (pL c36 194 (ix v13) (c36.2 174 68)) (fun c39 =>
              j177 c39)
              else none)
              else none)
              else none)))
            else none)
          (fun j129 =>
          if r22.1 = 0 then
            Option.bind (d_102 n 12 r22.2) (fun r41 =>
            if r41.1 = 0 then
              Option.bind (d_103 n r41.2) (fun r42 =>
              j129 r42)
            else
              j129 r41.2)
          else
            j129 r22.2)))
          else none))
          else none)
          else none
        else
          some r10))
      (fun j60 =>
      if (p7.1 190 (ix a1)) = 4 then
        if ib v2 4001 then
        Option.bind (d_97 n 6 (p7.1 179 (ix v2)) p7) (fun r44 =>
        j60 r44)
        else none
      else
        j60 p7)
      else none)
    (fun j38 =>
    if v6 < 0 then
      j38 r4.2
    else
      if ib v2 4001 then
      Option.bind (d_97 n 3 (r4.2.1 179 (ix v2)) r4.2) (fun r46 =>
      j38 r46)
      else none))
  else
    some r4.2))
set_option maxRecDepth 100000 in
set_option maxHeartbeats 4000000 in
theorem sp_401 {F Lo n : Nat} {a1 : Int32} {c y : cS} {w : cW} {K : cS → Prop} {Q : ((Option Value) ⊕ String) → List va_E → Prop} (hw : rOK fm w) (hF : 3 ≤ F) (hLo : 68 ≤ Lo)  (h : wp (d_401 n a1 c) K) (hQ : ∀ r, K r → Q (.inl none) (hq false r y w)) : rs (rt_P sc fm) 401 F Lo 0 [(0, .ref 174), (1, .int a1)] [] (hq false c y w) Q := by
  unfold d_401 at h
  obtain ⟨lv, elv⟩ : ∃ lv : rx_L, lv = [(0, .ref 174), (1, .int a1)] := ⟨_, rfl⟩
  rw [← elv]
  have l0 : rx_ld lv 0 = some (.ref 174) := by rw [elv]; rfl
  have l1 : rx_ld lv 1 = some (.int a1) := by rw [elv]; rfl
  refine rs_aldn wi_401_0 l0 ?_
  refine dq_gi wi_401_1 wf_401_471 tf_174_67 ?_
  obtain ⟨v2, e3, h⟩ := wp_lt h
  refine rs_topi e3 ?_
  refine dl_istn wi_401_4 rfl (fun lv l2 t1 => ?_)
  have l0 := t1 _ _ (by decide) (Or.inl rfl) l0
  have l1 := t1 _ _ (by decide) (Or.inl rfl) l1
  refine rs_aldn wi_401_5 l0 ?_
  refine rs_V wi_401_6 wc_401_505 rfl (dq_isa tf_174_0 wa_15_381) (Nat.le_trans (by decide) hF) (ml_le wm_381 (Nat.le_trans (by decide) hLo)) rfl (sp_381 hw (Nat.le_trans (by decide : 2 ≤ 3 - 1) (Nat.sub_le_sub_right hF 1)) (ml_sub wm_381 (Nat.le_trans (by decide : 42 ≤ 68 - 20) (Nat.sub_le_sub_right hLo 20))) (wp_bind h) (fun r4 h => rs_back1 ?_))
  refine dl_lstn wi_401_9 rfl (fun lv l3 t5 => ?_)
  have l0 := t5 _ _ (by decide) (by decide) (Or.inl rfl) l0
  have l1 := t5 _ _ (by decide) (by decide) (Or.inl rfl) l1
  have l2 := t5 _ _ (by decide) (by decide) (Or.inl rfl) l2
  refine rs_aldn wi_401_10 l0 ?_
  refine dq_gi wi_401_11 wf_401_409 tf_174_13 ?_
  refine rs_ifeq (tg := 18) wi_401_14 ⟨by decide, by decide⟩ (fun q => ?_) (fun q => ?_)
  ·
    have h := wp_pos h q
    refine rs_aldn wi_401_18 l0 ?_
    refine rs_ildn wi_401_19 l1 ?_
    refine rs_lldn wi_401_20 l3 ?_
    refine rs_V wi_401_21 wc_401_568 rfl (dq_isa tf_174_0 wa_15_378) (Nat.le_trans (by decide) hF) (ml_le wm_378 (Nat.le_trans (by decide) hLo)) rfl (sp_378 hw (Nat.le_trans (by decide : 0 ≤ 3 - 1) (Nat.sub_le_sub_right hF 1)) (ml_sub wm_378 (Nat.le_trans (by decide : 0 ≤ 68 - 24) (Nat.sub_le_sub_right hLo 24))) (wp_bind h) (fun v6 h => rs_back1 ?_))
    refine wp_jn (B := fun p7 : cS => ∀ lv, rx_ld lv 0 = some (.ref 174) → rx_ld lv 1 = some (.int a1) → rx_ld lv 2 = some (.int v2) → rx_ld lv 3 = some (.long r4.1) → rs (rt_P sc fm) 401 F Lo 38 lv [] (hq false p7 y w) Q) h (fun p7 h lv l0 l1 l2 l3 => ?_) (fun j38 hj38 h => ?_)
    ·
      refine rs_aldn wi_401_38 l0 ?_
      refine dq_gr wi_401_39 wf_401_122 tf_174_26 ?_
      refine rs_ildn wi_401_42 l1 ?_
      obtain ⟨g8, h⟩ := wp_gd h
      refine dq_iald wi_401_43 t_190 g8 ?_
      refine rs_pure wi_401_44 rfl ?_
      refine rs_topi (v := 4) (by decide) ?_
      refine wp_jn (B := fun p9 : cS => ∀ lv, rx_ld lv 0 = some (.ref 174) → rx_ld lv 1 = some (.int a1) → rx_ld lv 3 = some (.long r4.1) → rs (rt_P sc fm) 401 F Lo 60 lv [] (hq false p9 y w) Q) h (fun p9 h lv l0 l1 l3 => ?_) (fun j60 hj60 h => ?_)
      ·
        refine rs_aldn wi_401_60 l0 ?_
        refine rs_pure wi_401_61 rfl ?_
        refine rs_topi (v := 58) (by decide) ?_
        refine rs_V wi_401_63 wc_401_521 rfl (dq_isa tf_174_0 wa_15_380) (Nat.le_trans (by decide) hF) (ml_le wm_380 (Nat.le_trans (by decide) hLo)) rfl (sp_380 hw (Nat.le_trans (by decide : 2 ≤ 3 - 1) (Nat.sub_le_sub_right hF 1)) (ml_sub wm_380 (Nat.le_trans (by decide : 42 ≤ 68 - 21) (Nat.sub_le_sub_right hLo 21))) (wp_bind h) (fun r10 h => rs_back0 ?_))
        refine rs_aldn wi_401_66 l0 ?_
        refine dq_gi wi_401_67 wf_401_409 tf_174_13 ?_
        refine rs_ifeq (tg := 74) wi_401_70 ⟨by decide, by decide⟩ (fun q => ?_) (fun q => ?_)
        ·
          have h := wp_pos h q
          refine rs_pure wi_401_74 rfl ?_
          refine rs_topi (v := 4) (by decide) ?_
          refine rs_ildn wi_401_75 l1 ?_
          refine rs_pure wi_401_76 rfl ?_
          refine rs_aldn wi_401_77 l0 ?_
          refine dq_gr wi_401_78 wf_401_122 tf_174_26 ?_
          refine rs_ildn wi_401_81 l1 ?_
          obtain ⟨g11, h⟩ := wp_gd h
          refine dq_iald wi_401_82 t_190 g11 ?_
          refine rs_pure wi_401_83 rfl ?_
          obtain ⟨v13, e14, h⟩ := wp_lt h
          refine rs_topi e14 ?_
          refine dl_ist wi_401_84 rfl (fun lv l5 t12 => ?_)
          have l0 := t12 _ _ (by decide) (Or.inl rfl) l0
          have l1 := t12 _ _ (by decide) (Or.inl rfl) l1
          have l3 := t12 _ _ (by decide) (Or.inr (by decide)) l3
          refine rs_aldn wi_401_86 l0 ?_
          refine dq_gr wi_401_87 wf_401_125 tf_174_27 ?_
          refine rs_ild wi_401_90 l5 ?_
          refine rs_lldn wi_401_92 l3 ?_
          obtain ⟨g15, h⟩ := wp_gd h
          obtain ⟨c16, e17, h⟩ := wp_lt h
          refine dq_last wi_401_93 t_191 g15 e17 ?_
          refine rs_aldn wi_401_94 l0 ?_
          refine dq_gr wi_401_95 wf_401_128 tf_174_28 ?_
          refine rs_ild wi_401_98 l5 ?_
          refine rs_aldn wi_401_100 l0 ?_
          refine rs_pure wi_401_101 rfl ?_
          refine rs_topi (v := 13) (by decide) ?_
          refine rs_V wi_401_103 wc_401_474 rfl (dq_isa tf_174_0 wa_15_100) (Nat.le_trans (by decide) hF) (ml_le wm_100 (Nat.le_trans (by decide) hLo)) rfl (sp_100 hw (Nat.le_trans (by decide : 0 ≤ 3 - 1) (Nat.sub_le_sub_right hF 1)) (ml_sub wm_100 (Nat.le_trans (by decide : 0 ≤ 68 - 21) (Nat.sub_le_sub_right hLo 21))) (wp_bind h) (fun v18 h => rs_back1 ?_))
          obtain ⟨g19, h⟩ := wp_gd h
          obtain ⟨c20, e21, h⟩ := wp_lt h
          refine dq_zast wi_401_106 t_192 g19 e21 ?_
          refine rs_aldn wi_401_107 l0 ?_
          refine rs_pure wi_401_108 rfl ?_
          refine rs_topi (v := 13) (by decide) ?_
          refine rs_V wi_401_110 wc_401_490 rfl (dq_isa tf_174_0 wa_15_102) (Nat.le_trans (by decide) hF) (ml_le wm_102 (Nat.le_trans (by decide) hLo)) rfl (sp_102 hw (Nat.le_trans (by decide : 1 ≤ 3 - 1) (Nat.sub_le_sub_right hF 1)) (ml_sub wm_102 (Nat.le_trans (by decide : 21 ≤ 68 - 21) (Nat.sub_le_sub_right hLo 21))) (wp_bind h) (fun r22 h => rs_back1 ?_))
          refine wp_jn (B := fun p23 : cS => ∀ lv, rx_ld lv 0 = some (.ref 174) → rx_ld lv 1 = some (.int a1) → rx_ld lv 5 = some (.int v13) → rs (rt_P sc fm) 401 F Lo 129 lv [] (hq false p23 y w) Q) h (fun p23 h lv l0 l1 l5 => ?_) (fun j129 hj129 h => ?_)
          ·
            refine rs_aldn wi_401_129 l0 ?_
            refine dq_gr wi_401_130 wf_401_131 tf_174_29 ?_
            refine rs_ild wi_401_133 l5 ?_
            refine rs_pure wi_401_135 rfl ?_
            refine rs_topi (v := 0) (by decide) ?_
            obtain ⟨g24, h⟩ := wp_gd h
            obtain ⟨c25, e26, h⟩ := wp_lt h
            refine dq_zast wi_401_136 t_193 g24 e26 ?_
            refine rs_aldn wi_401_137 l0 ?_
            refine rs_pure wi_401_138 rfl ?_
            refine rs_topi (v := 61) (by decide) ?_
            refine rs_V wi_401_140 wc_401_483 rfl (dq_isa tf_174_0 wa_15_379) (Nat.le_trans (by decide) hF) (ml_le wm_379 (Nat.le_trans (by decide) hLo)) rfl (sp_379 hw (Nat.le_trans (by decide : 1 ≤ 3 - 1) (Nat.sub_le_sub_right hF 1)) (ml_sub wm_379 (Nat.le_trans (by decide : 21 ≤ 68 - 21) (Nat.sub_le_sub_right hLo 21))) (wp_bind h) (fun r27 h => rs_back1 ?_))
            refine wp_jn (B := fun p28 : cS => ∀ lv, rx_ld lv 0 = some (.ref 174) → rx_ld lv 1 = some (.int a1) → rs (rt_P sc fm) 401 F Lo 177 lv [] (hq false p28 y w) Q) h (fun p28 h lv l0 l1 => ?_) (fun j177 hj177 h => ?_)
            ·
              refine rs_aldn wi_401_177 l0 ?_
              refine dq_gr wi_401_178 wf_401_122 tf_174_26 ?_
              refine rs_ildn wi_401_181 l1 ?_
              refine rs_pure wi_401_182 rfl ?_
              obtain ⟨g29, h⟩ := wp_gd h
              refine dq_iald wi_401_183 t_190 g29 ?_
              refine rs_pure wi_401_184 rfl ?_
              refine rs_topi (v := 1) (by decide) ?_
              refine rs_pure wi_401_185 rfl ?_
              obtain ⟨g30, h⟩ := wp_gd h
              obtain ⟨c31, e32, h⟩ := wp_lt h
              refine dq_iast wi_401_186 t_190 g30 e32 ?_
              exact rs_vret wi_401_187 wr_401 (hQ c31 h)
            refine rs_ifeq (tg := 177) wi_401_143 ⟨by decide, by decide⟩ (fun q => ?_) (fun q => ?_)
            ·
              have h := wp_pos h q
              exact hj177 _ h _ l0 l1
            ·
              have h := wp_neg h q
              refine rs_aldn wi_401_146 l0 ?_
              refine rs_aldn wi_401_147 l0 ?_
              refine dq_gr wi_401_148 wf_401_128 tf_174_28 ?_
              refine rs_ild wi_401_151 l5 ?_
              obtain ⟨g33, h⟩ := wp_gd h
              refine dq_zald wi_401_153 t_192 g33 ?_
              refine rs_pure wi_401_154 rfl ?_
              refine rs_topi (v := 1) (by decide) ?_
              refine rs_V wi_401_155 wc_401_571 rfl (dq_isa tf_174_0 wa_15_382) (Nat.le_trans (by decide) hF) (ml_le wm_382 (Nat.le_trans (by decide) hLo)) rfl (sp_382 hw (Nat.le_trans (by decide : 2 ≤ 3 - 1) (Nat.sub_le_sub_right hF 1)) (ml_sub wm_382 (Nat.le_trans (by decide : 42 ≤ 68 - 26) (Nat.sub_le_sub_right hLo 26))) (wp_bind h) (fun r34 h => rs_back0 ?_))
              refine rs_aldn wi_401_158 l0 ?_
              refine dq_gr wi_401_159 wf_401_131 tf_174_29 ?_
              refine rs_ild wi_401_162 l5 ?_
              refine rs_pure wi_401_164 rfl ?_
              refine rs_topi (v := 1) (by decide) ?_
              obtain ⟨g35, h⟩ := wp_gd h
              obtain ⟨c36, e37, h⟩ := wp_lt h
              refine dq_zast wi_401_165 t_193 g35 e37 ?_
              refine rs_aldn wi_401_166 l0 ?_
              refine dq_gr wi_401_167 wf_401_134 tf_174_30 ?_
              refine rs_ild wi_401_170 l5 ?_
              refine rs_aldn wi_401_172 l0 ?_
              refine dq_gl wi_401_173 wf_401_486 tf_174_68 ?_
              obtain ⟨g38, h⟩ := wp_gd h
              obtain ⟨c39, e40, h⟩ := wp_lt h
              refine dq_last wi_401_176 t_194 g38 e40 ?_
              exact hj177 _ h _ l0 l1
          refine rs_ifne (tg := 129) wi_401_113 ⟨by decide, by decide⟩ (fun q => ?_) (fun q => ?_)
          ·
            have h := wp_neg h q
            exact hj129 _ h _ l0 l1 l5
          ·
            have h := wp_pos h q
            refine rs_aldn wi_401_116 l0 ?_
            refine rs_pure wi_401_117 rfl ?_
            refine rs_topi (v := 12) (by decide) ?_
            refine rs_V wi_401_119 wc_401_490 rfl (dq_isa tf_174_0 wa_15_102) (Nat.le_trans (by decide) hF) (ml_le wm_102 (Nat.le_trans (by decide) hLo)) rfl (sp_102 hw (Nat.le_trans (by decide : 1 ≤ 3 - 1) (Nat.sub_le_sub_right hF 1)) (ml_sub wm_102 (Nat.le_trans (by decide : 21 ≤ 68 - 21) (Nat.sub_le_sub_right hLo 21))) (wp_bind h) (fun r41 h => rs_back1 ?_))
            refine rs_ifne (tg := 129) wi_401_122 ⟨by decide, by decide⟩ (fun q => ?_) (fun q => ?_)
            ·
              have h := wp_neg h q
              exact hj129 _ h _ l0 l1 l5
            ·
              have h := wp_pos h q
              refine rs_aldn wi_401_125 l0 ?_
              refine rs_V wi_401_126 wc_401_480 rfl (dq_isa tf_174_0 wa_15_103) (Nat.le_trans (by decide) hF) (ml_le wm_103 (Nat.le_trans (by decide) hLo)) rfl (sp_103 hw (Nat.le_trans (by decide : 1 ≤ 3 - 1) (Nat.sub_le_sub_right hF 1)) (ml_sub wm_103 (Nat.le_trans (by decide : 22 ≤ 68 - 20) (Nat.sub_le_sub_right hLo 20))) (wp_bind h) (fun r42 h => rs_back0 ?_))
              exact hj129 _ h _ l0 l1 l5
        ·
          have h := wp_neg h q
          exact rs_vret wi_401_73 wr_401 (hQ r10 h)
      refine rs_icne (tg := 60) wi_401_45 ⟨by decide, by decide⟩ (fun q => ?_) (fun q => ?_)
      ·
        have h := wp_neg h q
        exact hj60 _ h _ l0 l1 l3
      ·
        have h := wp_pos h q
        refine rs_aldn wi_401_48 l0 ?_
        refine rs_pure wi_401_49 rfl ?_
        refine rs_topi (v := 6) (by decide) ?_
        refine rs_aldn wi_401_51 l0 ?_
        refine dq_gr wi_401_52 wf_401_87 tf_174_9 ?_
        refine rs_ildn wi_401_55 l2 ?_
        obtain ⟨g43, h⟩ := wp_gd h
        refine dq_iald wi_401_56 t_179 g43 ?_
        refine rs_V wi_401_57 wc_401_432 rfl (dq_isa tf_174_0 wa_15_97) (Nat.le_trans (by decide) hF) (ml_le wm_97 (Nat.le_trans (by decide) hLo)) rfl (sp_97 hw (Nat.le_trans (by decide : 0 ≤ 3 - 1) (Nat.sub_le_sub_right hF 1)) (ml_sub wm_97 (Nat.le_trans (by decide : 0 ≤ 68 - 22) (Nat.sub_le_sub_right hLo 22))) (wp_bind h) (fun r44 h => rs_back0 ?_))
        exact hj60 _ h _ l0 l1 l3
    refine rs_iflt (tg := 38) wi_401_24 ⟨by decide, by decide⟩ (fun q => ?_) (fun q => ?_)
    ·
      have h := wp_pos h q
      exact hj38 _ h _ l0 l1 l2 l3
    ·
      have h := wp_neg h q
      refine rs_aldn wi_401_27 l0 ?_
      refine rs_pure wi_401_28 rfl ?_
      refine rs_topi (v := 3) (by decide) ?_
      refine rs_aldn wi_401_29 l0 ?_
      refine dq_gr wi_401_30 wf_401_87 tf_174_9 ?_
      refine rs_ildn wi_401_33 l2 ?_
      obtain ⟨g45, h⟩ := wp_gd h
      refine dq_iald wi_401_34 t_179 g45 ?_
      refine rs_V wi_401_35 wc_401_432 rfl (dq_isa tf_174_0 wa_15_97) (Nat.le_trans (by decide) hF) (ml_le wm_97 (Nat.le_trans (by decide) hLo)) rfl (sp_97 hw (Nat.le_trans (by decide : 0 ≤ 3 - 1) (Nat.sub_le_sub_right hF 1)) (ml_sub wm_97 (Nat.le_trans (by decide : 0 ≤ 68 - 22) (Nat.sub_le_sub_right hLo 22))) (wp_bind h) (fun r46 h => rs_back0 ?_))
      exact hj38 _ h _ l0 l1 l2 l3
  ·
    have h := wp_neg h q
    exact rs_vret wi_401_17 wr_401 (hQ r4.2 h)
end D52
