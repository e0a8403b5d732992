/-! THE CODE AS PURE PROGRAMS, 17: by wip/whole/dc.py -/
section D58
variable {sc : Nat × (Nat → Int32)} {fm : Value}
theorem wc_449_703 : rx_ct (rt_P sc fm) 449 703 = some (0, 431, 2) := (by decide +kernel : rt_ct 449 703 = some (0, 431, 2))
theorem wc_449_712 : rx_ct (rt_P sc fm) 449 712 = some (0, 428, 2) := (by decide +kernel : rt_ct 449 712 = some (0, 428, 2))
theorem wf_449_252 : rx_ft (rt_P sc fm) 449 252 = some (15, 75) := (by decide +kernel : rt_ft 449 252 = some (15, 75))
theorem wf_449_258 : rx_ft (rt_P sc fm) 449 258 = some (15, 84) := (by decide +kernel : rt_ft 449 258 = some (15, 84))
theorem wf_449_678 : rx_ft (rt_P sc fm) 449 678 = some (15, 74) := (by decide +kernel : rt_ft 449 678 = some (15, 74))
theorem wi_449_0 : ri (rt_P sc fm) 449 0 (.aload_n 0) (1) := ri_of (by decide +kernel) rfl
theorem wi_449_1 : ri (rt_P sc fm) 449 1 (.iload_n 1) (2) := ri_of (by decide +kernel) rfl
theorem wi_449_10 : ri (rt_P sc fm) 449 10 (.getfield 678) (13) := ri_of (by decide +kernel) rfl
theorem wi_449_13 : ri (rt_P sc fm) 449 13 (.ifCond .le 17) (16) := ri_of (by decide +kernel) rfl
theorem wi_449_16 : ri (rt_P sc fm) 449 16 (.aload_n 0) (17) := ri_of (by decide +kernel) rfl
theorem wi_449_17 : ri (rt_P sc fm) 449 17 (.aload_n 0) (18) := ri_of (by decide +kernel) rfl
theorem wi_449_18 : ri (rt_P sc fm) 449 18 (.getfield 252) (21) := ri_of (by decide +kernel) rfl
theorem wi_449_2 : ri (rt_P sc fm) 449 2 (.bipush 100) (4) := ri_of (by decide +kernel) rfl
theorem wi_449_21 : ri (rt_P sc fm) 449 21 (.iconst 0) (22) := ri_of (by decide +kernel) rfl
theorem wi_449_22 : ri (rt_P sc fm) 449 22 (.iaload) (23) := ri_of (by decide +kernel) rfl
theorem wi_449_23 : ri (rt_P sc fm) 449 23 (.iload_n 2) (24) := ri_of (by decide +kernel) rfl
theorem wi_449_24 : ri (rt_P sc fm) 449 24 (.invokevirtual 703) (27) := ri_of (by decide +kernel) rfl
theorem wi_449_27 : ri (rt_P sc fm) 449 27 (.goto 15) (30) := ri_of (by decide +kernel) rfl
theorem wi_449_30 : ri (rt_P sc fm) 449 30 (.aload_n 0) (31) := ri_of (by decide +kernel) rfl
theorem wi_449_31 : ri (rt_P sc fm) 449 31 (.getfield 258) (34) := ri_of (by decide +kernel) rfl
theorem wi_449_34 : ri (rt_P sc fm) 449 34 (.sipush 1200) (37) := ri_of (by decide +kernel) rfl
theorem wi_449_37 : ri (rt_P sc fm) 449 37 (.iload_n 2) (38) := ri_of (by decide +kernel) rfl
theorem wi_449_38 : ri (rt_P sc fm) 449 38 (.imul) (39) := ri_of (by decide +kernel) rfl
theorem wi_449_39 : ri (rt_P sc fm) 449 39 (.iload_n 1) (40) := ri_of (by decide +kernel) rfl
theorem wi_449_4 : ri (rt_P sc fm) 449 4 (.iload_n 2) (5) := ri_of (by decide +kernel) rfl
theorem wi_449_40 : ri (rt_P sc fm) 449 40 (.iadd) (41) := ri_of (by decide +kernel) rfl
theorem wi_449_41 : ri (rt_P sc fm) 449 41 (.iaload) (42) := ri_of (by decide +kernel) rfl
theorem wi_449_42 : ri (rt_P sc fm) 449 42 (.ireturn) (43) := ri_of (by decide +kernel) rfl
theorem wi_449_5 : ri (rt_P sc fm) 449 5 (.iadd) (6) := ri_of (by decide +kernel) rfl
theorem wi_449_6 : ri (rt_P sc fm) 449 6 (.invokevirtual 712) (9) := ri_of (by decide +kernel) rfl
theorem wi_449_9 : ri (rt_P sc fm) 449 9 (.aload_n 0) (10) := ri_of (by decide +kernel) rfl
theorem wr_449 : rx_rt (rt_P sc fm) 449 = (some FieldType.int) := (by decide +kernel : rt_rt 449 = (some FieldType.int))
/-- MarkHouseModel.markNow(II)I -/
def d_449 (n : Nat) (a1 : Int32) (a2 : Int32) (c : cS) : Option (Int32 × cS) :=
  Option.bind (d_428 n a1 (100 + a2) c) (fun r1 =>
  jn (fun p2 : Int32 =>
    some (p2, r1))
  (fun j42 =>
  if (r1.1 174 74) ≤ 0 then
    if ib ((1200 * a2) + a1) 4800 then
    j42 (r1.1 235 (ix ((1200 * a2) + a1)))
    else none
  else
    if ib 0 20 then
    Option.bind (d_431 n (r1.1 233 (ix 0)) a2 r1) (fun v5 =>
    j42 v5)
    else none))
theorem sp_449 {F Lo n : Nat} {a1 : Int32} {a2 : Int32} {c y : cS} {w : cW} {K : Int32 × cS → Prop} {Q : ((Option Value) ⊕ String) → List va_E → Prop} (hw : rOK fm w) (hF : 4 ≤ F) (hLo : 105 ≤ Lo)  (h : wp (d_449 n a1 a2 c) K) (hQ : ∀ r, K r → Q (.inl (some (.int r.1))) (hq false r.2 y w)) : rs (rt_P sc fm) 449 F Lo 0 [(0, .ref 174), (1, .int a1), (2, .int a2)] [] (hq false c y w) Q := by
  unfold d_449 at h
  obtain ⟨lv, elv⟩ : ∃ lv : rx_L, lv = [(0, .ref 174), (1, .int a1), (2, .int a2)] := ⟨_, rfl⟩
  rw [← elv]
  have l0 : rx_ld lv 0 = some (.ref 174) := by rw [elv]; rfl
  have l1 : rx_ld lv 1 = some (.int a1) := by rw [elv]; rfl
  have l2 : rx_ld lv 2 = some (.int a2) := by rw [elv]; rfl
  refine rs_aldn wi_449_0 l0 ?_
  refine rs_ildn wi_449_1 l1 ?_
  refine rs_pure wi_449_2 rfl ?_
  refine rs_topi (v := 100) (by decide) ?_
  refine rs_ildn wi_449_4 l2 ?_
  refine rs_pure wi_449_5 rfl ?_
  refine rs_V wi_449_6 wc_449_712 rfl (dq_isa tf_174_0 wa_15_428) (Nat.le_trans (by decide) hF) (ml_le wm_428 (Nat.le_trans (by decide) hLo)) rfl (sp_428 hw (Nat.le_trans (by decide : 3 ≤ 4 - 1) (Nat.sub_le_sub_right hF 1)) (ml_sub wm_428 (Nat.le_trans (by decide : 77 ≤ 105 - 28) (Nat.sub_le_sub_right hLo 28))) (wp_bind h) (fun r1 h => rs_back0 ?_))
  refine rs_aldn wi_449_9 l0 ?_
  refine dq_gi wi_449_10 wf_449_678 tf_174_74 ?_
  refine wp_jn (B := fun p2 : Int32 => ∀ lv, rs (rt_P sc fm) 449 F Lo 42 lv [.int p2] (hq false r1 y w) Q) h (fun p2 h lv => ?_) (fun j42 hj42 h => ?_)
  ·
    exact rs_iret wi_449_42 wr_449 rfl (hQ (p2, r1) h)
  refine rs_ifle (tg := 30) wi_449_13 ⟨by decide, by decide⟩ (fun q => ?_) (fun q => ?_)
  ·
    have h := wp_pos h q
    refine rs_aldn wi_449_30 l0 ?_
    refine dq_gr wi_449_31 wf_449_258 tf_174_84 ?_
    refine rs_pure wi_449_34 rfl ?_
    refine rs_topi (v := 1200) (by decide) ?_
    refine rs_ildn wi_449_37 l2 ?_
    refine rs_pure wi_449_38 rfl ?_
    refine rs_ildn wi_449_39 l1 ?_
    refine rs_pure wi_449_40 rfl ?_
    obtain ⟨g3, h⟩ := wp_gd h
    refine dq_iald wi_449_41 t_235 g3 ?_
    exact hj42 _ h _
  ·
    have h := wp_neg h q
    refine rs_aldn wi_449_16 l0 ?_
    refine rs_aldn wi_449_17 l0 ?_
    refine dq_gr wi_449_18 wf_449_252 tf_174_75 ?_
    refine rs_pure wi_449_21 rfl ?_
    refine rs_topi (v := 0) (by decide) ?_
    obtain ⟨g4, h⟩ := wp_gd h
    refine dq_iald wi_449_22 t_233 g4 ?_
    refine rs_ildn wi_449_23 l2 ?_
    refine rs_V wi_449_24 wc_449_703 rfl (dq_isa tf_174_0 wa_15_431) (Nat.le_trans (by decide) hF) (ml_le wm_431 (Nat.le_trans (by decide) hLo)) rfl (sp_431 hw (Nat.le_trans (by decide : 2 ≤ 4 - 1) (Nat.sub_le_sub_right hF 1)) (ml_sub wm_431 (Nat.le_trans (by decide : 49 ≤ 105 - 23) (Nat.sub_le_sub_right hLo 23))) (wp_bind h) (fun v5 h => rs_back1 ?_))
    refine rs_goto (tg := 42) wi_449_27 ⟨by decide, by decide⟩ ?_
    exact hj42 _ h _
theorem wa_15_112 : rz_cn 15 (rx_yn (rt_P sc fm) 112).cls = true := (by decide +kernel : rz_cn 15 (rt_yn 112).cls = true)
theorem wa_15_449 : rz_cn 15 (rx_yn (rt_P sc fm) 449).cls = true := (by decide +kernel : rz_cn 15 (rt_yn 449).cls = true)
theorem wc_125_724 : rx_ct (rt_P sc fm) 125 724 = some (0, 119, 1) := (by decide +kernel : rt_ct 125 724 = some (0, 119, 1))
theorem wc_125_829 : rx_ct (rt_P sc fm) 125 829 = some (0, 112, 1) := (by decide +kernel : rt_ct 125 829 = some (0, 112, 1))
theorem wc_125_832 : rx_ct (rt_P sc fm) 125 832 = some (0, 449, 2) := (by decide +kernel : rt_ct 125 832 = some (0, 449, 2))
theorem wi_125_0 : ri (rt_P sc fm) 125 0 (.aload_n 0) (1) := ri_of (by decide +kernel) rfl
theorem wi_125_1 : ri (rt_P sc fm) 125 1 (.iconst 0) (2) := ri_of (by decide +kernel) rfl
theorem wi_125_10 : ri (rt_P sc fm) 125 10 (.ifCond .eq 20) (13) := ri_of (by decide +kernel) rfl
theorem wi_125_13 : ri (rt_P sc fm) 125 13 (.aload_n 0) (14) := ri_of (by decide +kernel) rfl
theorem wi_125_14 : ri (rt_P sc fm) 125 14 (.iload_n 2) (15) := ri_of (by decide +kernel) rfl
theorem wi_125_15 : ri (rt_P sc fm) 125 15 (.invokevirtual 724) (18) := ri_of (by decide +kernel) rfl
theorem wi_125_18 : ri (rt_P sc fm) 125 18 (.ifCond .eq 12) (21) := ri_of (by decide +kernel) rfl
theorem wi_125_2 : ri (rt_P sc fm) 125 2 (.putfield 356) (5) := ri_of (by decide +kernel) rfl
theorem wi_125_21 : ri (rt_P sc fm) 125 21 (.aload_n 0) (22) := ri_of (by decide +kernel) rfl
theorem wi_125_22 : ri (rt_P sc fm) 125 22 (.iload_n 1) (23) := ri_of (by decide +kernel) rfl
theorem wi_125_23 : ri (rt_P sc fm) 125 23 (.iload_n 2) (24) := ri_of (by decide +kernel) rfl
theorem wi_125_24 : ri (rt_P sc fm) 125 24 (.invokevirtual 832) (27) := ri_of (by decide +kernel) rfl
theorem wi_125_27 : ri (rt_P sc fm) 125 27 (.goto 4) (30) := ri_of (by decide +kernel) rfl
theorem wi_125_30 : ri (rt_P sc fm) 125 30 (.iconst (-1)) (31) := ri_of (by decide +kernel) rfl
theorem wi_125_31 : ri (rt_P sc fm) 125 31 (.ireturn) (32) := ri_of (by decide +kernel) rfl
theorem wi_125_5 : ri (rt_P sc fm) 125 5 (.aload_n 0) (6) := ri_of (by decide +kernel) rfl
theorem wi_125_6 : ri (rt_P sc fm) 125 6 (.iload_n 1) (7) := ri_of (by decide +kernel) rfl
theorem wi_125_7 : ri (rt_P sc fm) 125 7 (.invokevirtual 829) (10) := ri_of (by decide +kernel) rfl
theorem wm_112 : rx_ml (rt_P sc fm) 112 = 2 := (by decide +kernel : rt_ml 112 = 2)
theorem wm_449 : rx_ml (rt_P sc fm) 449 = 3 := (by decide +kernel : rt_ml 449 = 3)
theorem wp_125_356 : rx_pt (rt_P sc fm) 125 356 = some (15, 0, .int) := (by decide +kernel : rt_pt 125 356 = some (15, 0, .int))
theorem wr_125 : rx_rt (rt_P sc fm) 125 = (some FieldType.int) := (by decide +kernel : rt_rt 125 = (some FieldType.int))
/-- MarkHouseModel.markOf(II)I -/
def d_125 (n : Nat) (a1 : Int32) (a2 : Int32) (c : cS) : Option (Int32 × cS) :=
  lt (pI c 174 0 0) (fun c1 =>
  Option.bind (d_112 n a1 c1) (fun v3 =>
  jn (fun p4 : Int32 × cS =>
    some (p4.1, p4.2))
  (fun j31 =>
  jn (fun p5 : Unit =>
    j31 ((-1), c1))
  (fun j30 =>
  if v3 = 0 then
    j30 ()
  else
    Option.bind (d_119 n a2 c1) (fun v6 =>
    if v6 = 0 then
      j30 ()
    else
      Option.bind (d_449 n a1 a2 c1) (fun r7 =>
      j31 (r7.1, r7.2)))))))
theorem sp_125 {F Lo n : Nat} {a1 : Int32} {a2 : Int32} {c y : cS} {w : cW} {K : Int32 × cS → Prop} {Q : ((Option Value) ⊕ String) → List va_E → Prop} (hw : rOK fm w) (hF : 5 ≤ F) (hLo : 127 ≤ Lo)  (h : wp (d_125 n a1 a2 c) K) (hQ : ∀ r, K r → Q (.inl (some (.int r.1))) (hq false r.2 y w)) : rs (rt_P sc fm) 125 F Lo 0 [(0, .ref 174), (1, .int a1), (2, .int a2)] [] (hq false c y w) Q := by
  unfold d_125 at h
  obtain ⟨lv, elv⟩ : ∃ lv : rx_L, lv = [(0, .ref 174), (1, .int a1), (2, .int a2)] := ⟨_, rfl⟩
  rw [← elv]
  have l0 : rx_ld lv 0 = some (.ref 174) := by rw [elv]; rfl
  have l1 : rx_ld lv 1 = some (.int a1) := by rw [elv]; rfl
  have l2 : rx_ld lv 2 = some (.int a2) := by rw [elv]; rfl
  refine rs_aldn wi_125_0 l0 ?_
  refine rs_pure wi_125_1 rfl ?_
  refine rs_topi (v := 0) (by decide) ?_
  obtain ⟨c1, e2, h⟩ := wp_lt h
  refine dq_pi wi_125_2 wp_125_356 tf_174_0 rfl rfl e2 ?_
  refine rs_aldn wi_125_5 l0 ?_
  refine rs_ildn wi_125_6 l1 ?_
  refine rs_V wi_125_7 wc_125_829 rfl (dq_isa tf_174_0 wa_15_112) (Nat.le_trans (by decide) hF) (ml_le wm_112 (Nat.le_trans (by decide) hLo)) rfl (sp_112 hw (Nat.le_trans (by decide : 1 ≤ 5 - 1) (Nat.sub_le_sub_right hF 1)) (ml_sub wm_112 (Nat.le_trans (by decide : 24 ≤ 127 - 21) (Nat.sub_le_sub_right hLo 21))) (wp_bind h) (fun v3 h => rs_back1 ?_))
  refine wp_jn (B := fun p4 : Int32 × cS => ∀ lv, rs (rt_P sc fm) 125 F Lo 31 lv [.int p4.1] (hq false p4.2 y w) Q) h (fun p4 h lv => ?_) (fun j31 hj31 h => ?_)
  ·
    exact rs_iret wi_125_31 wr_125 rfl (hQ (p4.1, p4.2) h)
  refine wp_jn (B := fun p5 : Unit => ∀ lv, rs (rt_P sc fm) 125 F Lo 30 lv [] (hq false c1 y w) Q) h (fun p5 h lv => ?_) (fun j30 hj30 h => ?_)
  ·
    refine rs_pure wi_125_30 rfl ?_
    refine rs_topi (v := (-1)) (by decide) ?_
    exact hj31 _ h _
  refine rs_ifeq (tg := 30) wi_125_10 ⟨by decide, by decide⟩ (fun q => ?_) (fun q => ?_)
  ·
    have h := wp_pos h q
    exact hj30 _ h _
  ·
    have h := wp_neg h q
    refine rs_aldn wi_125_13 l0 ?_
    refine rs_ildn wi_125_14 l2 ?_
    refine rs_V wi_125_15 wc_125_724 rfl (dq_isa tf_174_0 wa_15_119) (Nat.le_trans (by decide) hF) (ml_le wm_119 (Nat.le_trans (by decide) hLo)) rfl (sp_119 hw (Nat.le_trans (by decide : 0 ≤ 5 - 1) (Nat.sub_le_sub_right hF 1)) (ml_sub wm_119 (Nat.le_trans (by decide : 0 ≤ 127 - 21) (Nat.sub_le_sub_right hLo 21))) (wp_bind h) (fun v6 h => rs_back1 ?_))
    refine rs_ifeq (tg := 30) wi_125_18 ⟨by decide, by decide⟩ (fun q => ?_) (fun q => ?_)
    ·
      have h := wp_pos h q
      exact hj30 _ h _
    ·
      have h := wp_neg h q
      refine rs_aldn wi_125_21 l0 ?_
      refine rs_ildn wi_125_22 l1 ?_
      refine rs_ildn wi_125_23 l2 ?_
      refine rs_V wi_125_24 wc_125_832 rfl (dq_isa tf_174_0 wa_15_449) (Nat.le_trans (by decide) hF) (ml_le wm_449 (Nat.le_trans (by decide) hLo)) rfl (sp_449 hw (Nat.le_trans (by decide : 4 ≤ 5 - 1) (Nat.sub_le_sub_right hF 1)) (ml_sub wm_449 (Nat.le_trans (by decide : 105 ≤ 127 - 22) (Nat.sub_le_sub_right hLo 22))) (wp_bind h) (fun r7 h => rs_back1 ?_))
      refine rs_goto (tg := 31) wi_125_27 ⟨by decide, by decide⟩ ?_
      exact hj31 _ h _
theorem t_236 : ta false 236 0 1200 := ⟨rfl, by decide, by decide⟩
theorem t_237 : ta false 237 3 1200 := ⟨rfl, by decide, by decide⟩
theorem tf_174_85 : fo false 174 15 85 (.ref 236) := ⟨_, rfl, rfl, by decide, by decide⟩
theorem tf_174_86 : fo false 174 15 86 (.ref 237) := ⟨_, rfl, rfl, by decide, by decide⟩
theorem wc_450_829 : rx_ct (rt_P sc fm) 450 829 = some (0, 112, 1) := (by decide +kernel : rt_ct 450 829 = some (0, 112, 1))
theorem wc_450_832 : rx_ct (rt_P sc fm) 450 832 = some (0, 449, 2) := (by decide +kernel : rt_ct 450 832 = some (0, 449, 2))
theorem wf_450_261 : rx_ft (rt_P sc fm) 450 261 = some (15, 85) := (by decide +kernel : rt_ft 450 261 = some (15, 85))
theorem wf_450_264 : rx_ft (rt_P sc fm) 450 264 = some (15, 86) := (by decide +kernel : rt_ft 450 264 = some (15, 86))
theorem wf_450_678 : rx_ft (rt_P sc fm) 450 678 = some (15, 74) := (by decide +kernel : rt_ft 450 678 = some (15, 74))
theorem wi_450_0 : ri (rt_P sc fm) 450 0 (.iconst 0) (1) := ri_of (by decide +kernel) rfl
theorem wi_450_1 : ri (rt_P sc fm) 450 1 (.istore_n 2) (2) := ri_of (by decide +kernel) rfl
theorem wi_450_10 : ri (rt_P sc fm) 450 10 (.iload_n 2) (11) := ri_of (by decide +kernel) rfl
theorem wi_450_11 : ri (rt_P sc fm) 450 11 (.invokevirtual 829) (14) := ri_of (by decide +kernel) rfl
theorem wi_450_14 : ri (rt_P sc fm) 450 14 (.ifCond .ne 6) (17) := ri_of (by decide +kernel) rfl
theorem wi_450_17 : ri (rt_P sc fm) 450 17 (.goto 33) (20) := ri_of (by decide +kernel) rfl
theorem wi_450_2 : ri (rt_P sc fm) 450 2 (.iload_n 2) (3) := ri_of (by decide +kernel) rfl
theorem wi_450_20 : ri (rt_P sc fm) 450 20 (.aload_n 0) (21) := ri_of (by decide +kernel) rfl
theorem wi_450_21 : ri (rt_P sc fm) 450 21 (.getfield 261) (24) := ri_of (by decide +kernel) rfl
theorem wi_450_24 : ri (rt_P sc fm) 450 24 (.iload_n 2) (25) := ri_of (by decide +kernel) rfl
theorem wi_450_25 : ri (rt_P sc fm) 450 25 (.aload_n 0) (26) := ri_of (by decide +kernel) rfl
theorem wi_450_26 : ri (rt_P sc fm) 450 26 (.iload_n 2) (27) := ri_of (by decide +kernel) rfl
theorem wi_450_27 : ri (rt_P sc fm) 450 27 (.iload_n 1) (28) := ri_of (by decide +kernel) rfl
theorem wi_450_28 : ri (rt_P sc fm) 450 28 (.invokevirtual 832) (31) := ri_of (by decide +kernel) rfl
theorem wi_450_3 : ri (rt_P sc fm) 450 3 (.sipush 1200) (6) := ri_of (by decide +kernel) rfl
theorem wi_450_31 : ri (rt_P sc fm) 450 31 (.iastore) (32) := ri_of (by decide +kernel) rfl
theorem wi_450_32 : ri (rt_P sc fm) 450 32 (.aload_n 0) (33) := ri_of (by decide +kernel) rfl
theorem wi_450_33 : ri (rt_P sc fm) 450 33 (.getfield 264) (36) := ri_of (by decide +kernel) rfl
theorem wi_450_36 : ri (rt_P sc fm) 450 36 (.iload_n 2) (37) := ri_of (by decide +kernel) rfl
theorem wi_450_37 : ri (rt_P sc fm) 450 37 (.aload_n 0) (38) := ri_of (by decide +kernel) rfl
theorem wi_450_38 : ri (rt_P sc fm) 450 38 (.getfield 678) (41) := ri_of (by decide +kernel) rfl
theorem wi_450_41 : ri (rt_P sc fm) 450 41 (.ifCond .le 7) (44) := ri_of (by decide +kernel) rfl
theorem wi_450_44 : ri (rt_P sc fm) 450 44 (.iconst 1) (45) := ri_of (by decide +kernel) rfl
theorem wi_450_45 : ri (rt_P sc fm) 450 45 (.goto 4) (48) := ri_of (by decide +kernel) rfl
theorem wi_450_48 : ri (rt_P sc fm) 450 48 (.iconst 0) (49) := ri_of (by decide +kernel) rfl
theorem wi_450_49 : ri (rt_P sc fm) 450 49 (.bastore) (50) := ri_of (by decide +kernel) rfl
theorem wi_450_50 : ri (rt_P sc fm) 450 50 (.iinc 2 1) (53) := ri_of (by decide +kernel) rfl
theorem wi_450_53 : ri (rt_P sc fm) 450 53 (.goto (-51)) (56) := ri_of (by decide +kernel) rfl
theorem wi_450_56 : ri (rt_P sc fm) 450 56 (.return_) (57) := ri_of (by decide +kernel) rfl
theorem wi_450_6 : ri (rt_P sc fm) 450 6 (.if_icmp .ge 50) (9) := ri_of (by decide +kernel) rfl
theorem wi_450_9 : ri (rt_P sc fm) 450 9 (.aload_n 0) (10) := ri_of (by decide +kernel) rfl
theorem wr_450 : rx_rt (rt_P sc fm) 450 = none := (by decide +kernel : rt_rt 450 = none)
/-- MarkHouseModel.findMarks(I)V -/
def d_450 (n : Nat) (a1 : Int32) (c : cS) : Option (cS) :=
  Option.bind (whl (R := (cS)) (fun s2 : Int32 × cS =>
    if 1200 ≤ s2.1 then
      some (.inr s2.2)
    else
      Option.bind (d_112 n s2.1 s2.2) (fun v3 =>
      jn (fun p4 : cS =>
        lt (s2.1 + 1 : Int32) (fun v6 =>
        some (.inl (v6, p4))))
      (fun j50 =>
      if v3 = 0 then
        j50 s2.2
      else
        Option.bind (d_449 n s2.1 a1 s2.2) (fun r8 =>
        if ib s2.1 1200 then
        lt (pI r8.2 236 (ix s2.1) r8.1) (fun c10 =>
        jn (fun p12 : Int32 =>
          if ib s2.1 1200 then
          lt (pI c10 237 (ix s2.1) (vp_nar .boolean p12)) (fun c14 =>
          j50 c14)
          else none)
        (fun j49 =>
        if (c10.1 174 74) ≤ 0 then
          j49 0
        else
          j49 1))
        else none)))) n (0, c))
  (fun x16 : cS =>
    some x16)
theorem sp_450 {F Lo n : Nat} {a1 : Int32} {c y : cS} {w : cW} {K : cS → Prop} {Q : ((Option Value) ⊕ String) → List va_E → Prop} (hw : rOK fm w) (hF : 5 ≤ F) (hLo : 127 ≤ Lo)  (h : wp (d_450 n a1 c) K) (hQ : ∀ r, K r → Q (.inl none) (hq false r y w)) : rs (rt_P sc fm) 450 F Lo 0 [(0, .ref 174), (1, .int a1)] [] (hq false c y w) Q := by
  unfold d_450 at h
  obtain ⟨lv, elv⟩ : ∃ lv : rx_L, lv = [(0, .ref 174), (1, .int a1)] := ⟨_, rfl⟩
  rw [← elv]
  have l0 : rx_ld lv 0 = some (.ref 174) := by rw [elv]; rfl
  have l1 : rx_ld lv 1 = some (.int a1) := by rw [elv]; rfl
  refine rs_pure wi_450_0 rfl ?_
  refine rs_topi (v := 0) (by decide) ?_
  refine dl_istn wi_450_1 rfl (fun lv l2 t1 => ?_)
  have l0 := t1 _ _ (by decide) (Or.inl rfl) l0
  have l1 := t1 _ _ (by decide) (Or.inl rfl) l1
  refine whl_ex (A := fun s2 : Int32 × cS => ∀ lv, rx_ld lv 0 = some (.ref 174) → rx_ld lv 1 = some (.int a1) → rx_ld lv 2 = some (.int s2.1) → rs (rt_P sc fm) 450 F Lo 2 lv [] (hq false s2.2 y w) Q) (B := (fun x16 : cS => ∀ lv, rs (rt_P sc fm) 450 F Lo 56 lv [] (hq false x16 y w) Q)) ?_ ?_ _ _ (wp_bind h) _ l0 l1 l2
  · intro s2 h lv l0 l1 l2
    refine rs_ildn wi_450_2 l2 ?_
    refine rs_pure wi_450_3 rfl ?_
    refine rs_topi (v := 1200) (by decide) ?_
    refine rs_icge (tg := 56) wi_450_6 ⟨by decide, by decide⟩ (fun q => ?_) (fun q => ?_)
    ·
      have h := wp_pos h q
      exact h _
    ·
      have h := wp_neg h q
      refine rs_aldn wi_450_9 l0 ?_
      refine rs_ildn wi_450_10 l2 ?_
      refine rs_V wi_450_11 wc_450_829 rfl (dq_isa tf_174_0 wa_15_112) (Nat.le_trans (by decide) hF) (ml_le wm_112 (Nat.le_trans (by decide) hLo)) rfl (sp_112 hw (Nat.le_trans (by decide : 1 ≤ 5 - 1) (Nat.sub_le_sub_right hF 1)) (ml_sub wm_112 (Nat.le_trans (by decide : 24 ≤ 127 - 21) (Nat.sub_le_sub_right hLo 21))) (wp_bind h) (fun v3 h => rs_back1 ?_))
      refine wp_jn (B := fun p4 : cS => ∀ lv, rx_ld lv 0 = some (.ref 174) → rx_ld lv 1 = some (.int a1) → rx_ld lv 2 = some (.int s2.1) → rs (rt_P sc fm) 450 F Lo 50 lv [] (hq false p4 y w) Q) h (fun p4 h lv l0 l1 l2 => ?_) (fun j50 hj50 h => ?_)
      ·
        obtain ⟨v6, e7, h⟩ := wp_lt h
        refine dl_inc wi_450_50 l2 rfl e7 (fun lv l2 t5 => ?_)
        have l0 := t5 _ _ (by decide) (Or.inl rfl) l0
        have l1 := t5 _ _ (by decide) (Or.inl rfl) l1
        refine rs_goto (tg := 2) wi_450_53 ⟨by decide, by decide⟩ ?_
        exact h _ l0 l1 l2
      refine rs_ifne (tg := 20) wi_450_14 ⟨by decide, by decide⟩ (fun q => ?_) (fun q => ?_)
      ·
        have h := wp_neg h q
        refine rs_aldn wi_450_20 l0 ?_
        refine dq_gr wi_450_21 wf_450_261 tf_174_85 ?_
        refine rs_ildn wi_450_24 l2 ?_
        refine rs_aldn wi_450_25 l0 ?_
        refine rs_ildn wi_450_26 l2 ?_
        refine rs_ildn wi_450_27 l1 ?_
        refine rs_V wi_450_28 wc_450_832 rfl (dq_isa tf_174_0 wa_15_449) (Nat.le_trans (by decide) hF) (ml_le wm_449 (Nat.le_trans (by decide) hLo)) rfl (sp_449 hw (Nat.le_trans (by decide : 4 ≤ 5 - 1) (Nat.sub_le_sub_right hF 1)) (ml_sub wm_449 (Nat.le_trans (by decide : 105 ≤ 127 - 22) (Nat.sub_le_sub_right hLo 22))) (wp_bind h) (fun r8 h => rs_back1 ?_))
        obtain ⟨g9, h⟩ := wp_gd h
        obtain ⟨c10, e11, h⟩ := wp_lt h
        refine dq_iast wi_450_31 t_236 g9 e11 ?_
        refine rs_aldn wi_450_32 l0 ?_
        refine dq_gr wi_450_33 wf_450_264 tf_174_86 ?_
        refine rs_ildn wi_450_36 l2 ?_
        refine rs_aldn wi_450_37 l0 ?_
        refine dq_gi wi_450_38 wf_450_678 tf_174_74 ?_
        refine wp_jn (B := fun p12 : Int32 => ∀ lv, rx_ld lv 0 = some (.ref 174) → rx_ld lv 1 = some (.int a1) → rx_ld lv 2 = some (.int s2.1) → rs (rt_P sc fm) 450 F Lo 49 lv [.int p12, .int s2.1, .ref 237] (hq false c10 y w) Q) h (fun p12 h lv l0 l1 l2 => ?_) (fun j49 hj49 h => ?_)
        ·
          obtain ⟨g13, h⟩ := wp_gd h
          obtain ⟨c14, e15, h⟩ := wp_lt h
          refine dq_zast wi_450_49 t_237 g13 e15 ?_
          exact hj50 _ h _ l0 l1 l2
        refine rs_ifle (tg := 48) wi_450_41 ⟨by decide, by decide⟩ (fun q => ?_) (fun q => ?_)
        ·
          have h := wp_pos h q
          refine rs_pure wi_450_48 rfl ?_
          refine rs_topi (v := 0) (by decide) ?_
          exact hj49 _ h _ l0 l1 l2
        ·
          have h := wp_neg h q
          refine rs_pure wi_450_44 rfl ?_
          refine rs_topi (v := 1) (by decide) ?_
          refine rs_goto (tg := 49) wi_450_45 ⟨by decide, by decide⟩ ?_
          exact hj49 _ h _ l0 l1 l2
      ·
        have h := wp_pos h q
        refine rs_goto (tg := 50) wi_450_17 ⟨by decide, by decide⟩ ?_
        exact hj50 _ h _ l0 l1 l2
  ·
    intro x16 h lv
    exact rs_vret wi_450_56 wr_450 (hQ x16 h)
theorem t_240 : ta false 240 0 16 := ⟨rfl, by decide, by decide⟩
theorem tf_174_89 : fo false 174 15 89 (.ref 240) := ⟨_, rfl, rfl, by decide, by decide⟩
theorem wc_452_661 : rx_ct (rt_P sc fm) 452 661 = some (1, 422, 1) := (by decide +kernel : rt_ct 452 661 = some (1, 422, 1))
theorem wf_452_116 : rx_ft (rt_P sc fm) 452 116 = some (15, 23) := (by decide +kernel : rt_ft 452 116 = some (15, 23))
theorem wf_452_173 : rx_ft (rt_P sc fm) 452 173 = some (15, 45) := (by decide +kernel : rt_ft 452 173 = some (15, 45))
theorem wf_452_261 : rx_ft (rt_P sc fm) 452 261 = some (15, 85) := (by decide +kernel : rt_ft 452 261 = some (15, 85))
theorem wf_452_274 : rx_ft (rt_P sc fm) 452 274 = some (15, 89) := (by decide +kernel : rt_ft 452 274 = some (15, 89))
theorem wi_452_0 : ri (rt_P sc fm) 452 0 (.iconst 0) (1) := ri_of (by decide +kernel) rfl
theorem wi_452_1 : ri (rt_P sc fm) 452 1 (.istore_n 3) (2) := ri_of (by decide +kernel) rfl
theorem wi_452_12 : ri (rt_P sc fm) 452 12 (.iload_n 3) (13) := ri_of (by decide +kernel) rfl
theorem wi_452_13 : ri (rt_P sc fm) 452 13 (.iload_n 3) (14) := ri_of (by decide +kernel) rfl
theorem wi_452_14 : ri (rt_P sc fm) 452 14 (.aload_n 0) (15) := ri_of (by decide +kernel) rfl
theorem wi_452_15 : ri (rt_P sc fm) 452 15 (.getfield 173) (18) := ri_of (by decide +kernel) rfl
theorem wi_452_18 : ri (rt_P sc fm) 452 18 (.iload_n 1) (19) := ri_of (by decide +kernel) rfl
theorem wi_452_19 : ri (rt_P sc fm) 452 19 (.iaload) (20) := ri_of (by decide +kernel) rfl
theorem wi_452_2 : ri (rt_P sc fm) 452 2 (.iload_n 3) (3) := ri_of (by decide +kernel) rfl
theorem wi_452_20 : ri (rt_P sc fm) 452 20 (.if_icmp .ge 19) (23) := ri_of (by decide +kernel) rfl
theorem wi_452_23 : ri (rt_P sc fm) 452 23 (.aload_n 0) (24) := ri_of (by decide +kernel) rfl
theorem wi_452_24 : ri (rt_P sc fm) 452 24 (.getfield 261) (27) := ri_of (by decide +kernel) rfl
theorem wi_452_27 : ri (rt_P sc fm) 452 27 (.iload_n 1) (28) := ri_of (by decide +kernel) rfl
theorem wi_452_28 : ri (rt_P sc fm) 452 28 (.invokestatic 661) (31) := ri_of (by decide +kernel) rfl
theorem wi_452_3 : ri (rt_P sc fm) 452 3 (.bipush 16) (5) := ri_of (by decide +kernel) rfl
theorem wi_452_31 : ri (rt_P sc fm) 452 31 (.iconst 1) (32) := ri_of (by decide +kernel) rfl
theorem wi_452_32 : ri (rt_P sc fm) 452 32 (.iadd) (33) := ri_of (by decide +kernel) rfl
theorem wi_452_33 : ri (rt_P sc fm) 452 33 (.iload_n 3) (34) := ri_of (by decide +kernel) rfl
theorem wi_452_34 : ri (rt_P sc fm) 452 34 (.iadd) (35) := ri_of (by decide +kernel) rfl
theorem wi_452_35 : ri (rt_P sc fm) 452 35 (.iaload) (36) := ri_of (by decide +kernel) rfl
theorem wi_452_36 : ri (rt_P sc fm) 452 36 (.goto 9) (39) := ri_of (by decide +kernel) rfl
theorem wi_452_39 : ri (rt_P sc fm) 452 39 (.aload_n 0) (40) := ri_of (by decide +kernel) rfl
theorem wi_452_40 : ri (rt_P sc fm) 452 40 (.getfield 116) (43) := ri_of (by decide +kernel) rfl
theorem wi_452_43 : ri (rt_P sc fm) 452 43 (.iload_n 2) (44) := ri_of (by decide +kernel) rfl
theorem wi_452_44 : ri (rt_P sc fm) 452 44 (.iaload) (45) := ri_of (by decide +kernel) rfl
theorem wi_452_45 : ri (rt_P sc fm) 452 45 (.iastore) (46) := ri_of (by decide +kernel) rfl
theorem wi_452_46 : ri (rt_P sc fm) 452 46 (.iinc 3 1) (49) := ri_of (by decide +kernel) rfl
theorem wi_452_49 : ri (rt_P sc fm) 452 49 (.goto (-47)) (52) := ri_of (by decide +kernel) rfl
theorem wi_452_5 : ri (rt_P sc fm) 452 5 (.if_icmp .ge 47) (8) := ri_of (by decide +kernel) rfl
theorem wi_452_52 : ri (rt_P sc fm) 452 52 (.return_) (53) := ri_of (by decide +kernel) rfl
theorem wi_452_8 : ri (rt_P sc fm) 452 8 (.aload_n 0) (9) := ri_of (by decide +kernel) rfl
theorem wi_452_9 : ri (rt_P sc fm) 452 9 (.getfield 274) (12) := ri_of (by decide +kernel) rfl
theorem wr_452 : rx_rt (rt_P sc fm) 452 = none := (by decide +kernel : rt_rt 452 = none)
/-- MarkHouseModel.first(II)V -/
def d_452 (n : Nat) (a1 : Int32) (a2 : Int32) (c : cS) : Option (cS) :=
  Option.bind (whl (R := (cS)) (fun s2 : Int32 × cS =>
    if 16 ≤ s2.1 then
      some (.inr s2.2)
    else
      if ib a1 96 then
      jn (fun p4 : Int32 =>
        if ib s2.1 16 then
        lt (pI s2.2 240 (ix s2.1) p4) (fun c6 =>
        lt (s2.1 + 1 : Int32) (fun v9 =>
        some (.inl (v9, c6))))
        else none)
      (fun j45 =>
      if (s2.2.1 207 (ix a1)) ≤ s2.1 then
        if ib a2 4 then
        j45 (s2.2.1 188 (ix a2))
        else none
      else
        Option.bind (d_422 n a1) (fun v12 =>
        if ib ((v12 + 1) + s2.1) 1200 then
        j45 (s2.2.1 236 (ix ((v12 + 1) + s2.1)))
        else none))
      else none) n (0, c))
  (fun x14 : cS =>
    some x14)
theorem sp_452 {F Lo n : Nat} {a1 : Int32} {a2 : Int32} {c y : cS} {w : cW} {K : cS → Prop} {Q : ((Option Value) ⊕ String) → List va_E → Prop} (hw : rOK fm w) (hF : 1 ≤ F) (hLo : 20 ≤ Lo)  (h : wp (d_452 n a1 a2 c) K) (hQ : ∀ r, K r → Q (.inl none) (hq false r y w)) : rs (rt_P sc fm) 452 F Lo 0 [(0, .ref 174), (1, .int a1), (2, .int a2)] [] (hq false c y w) Q := by
  unfold d_452 at h
  obtain ⟨lv, elv⟩ : ∃ lv : rx_L, lv = [(0, .ref 174), (1, .int a1), (2, .int a2)] := ⟨_, rfl⟩
  rw [← elv]
  have l0 : rx_ld lv 0 = some (.ref 174) := by rw [elv]; rfl
  have l1 : rx_ld lv 1 = some (.int a1) := by rw [elv]; rfl
  have l2 : rx_ld lv 2 = some (.int a2) := by rw [elv]; rfl
  refine rs_pure wi_452_0 rfl ?_
  refine rs_topi (v := 0) (by decide) ?_
  refine dl_istn wi_452_1 rfl (fun lv l3 t1 => ?_)
  have l0 := t1 _ _ (by decide) (Or.inl rfl) l0
  have l1 := t1 _ _ (by decide) (Or.inl rfl) l1
  have l2 := t1 _ _ (by decide) (Or.inl rfl) l2
  refine whl_ex (A := fun s2 : Int32 × cS => ∀ lv, rx_ld lv 0 = some (.ref 174) → rx_ld lv 1 = some (.int a1) → rx_ld lv 2 = some (.int a2) → rx_ld lv 3 = some (.int s2.1) → rs (rt_P sc fm) 452 F Lo 2 lv [] (hq false s2.2 y w) Q) (B := (fun x14 : cS => ∀ lv, rs (rt_P sc fm) 452 F Lo 52 lv [] (hq false x14 y w) Q)) ?_ ?_ _ _ (wp_bind h) _ l0 l1 l2 l3
  · intro s2 h lv l0 l1 l2 l3
    refine rs_ildn wi_452_2 l3 ?_
    refine rs_pure wi_452_3 rfl ?_
    refine rs_topi (v := 16) (by decide) ?_
    refine rs_icge (tg := 52) wi_452_5 ⟨by decide, by decide⟩ (fun q => ?_) (fun q => ?_)
    ·
      have h := wp_pos h q
      exact h _
    ·
      have h := wp_neg h q
      refine rs_aldn wi_452_8 l0 ?_
      refine dq_gr wi_452_9 wf_452_274 tf_174_89 ?_
      refine rs_ildn wi_452_12 l3 ?_
      refine rs_ildn wi_452_13 l3 ?_
      refine rs_aldn wi_452_14 l0 ?_
      refine dq_gr wi_452_15 wf_452_173 tf_174_45 ?_
      refine rs_ildn wi_452_18 l1 ?_
      obtain ⟨g3, h⟩ := wp_gd h
      refine dq_iald wi_452_19 t_207 g3 ?_
      refine wp_jn (B := fun p4 : Int32 => ∀ lv, rx_ld lv 0 = some (.ref 174) → rx_ld lv 1 = some (.int a1) → rx_ld lv 2 = some (.int a2) → rx_ld lv 3 = some (.int s2.1) → rs (rt_P sc fm) 452 F Lo 45 lv [.int p4, .int s2.1, .ref 240] (hq false s2.2 y w) Q) h (fun p4 h lv l0 l1 l2 l3 => ?_) (fun j45 hj45 h => ?_)
      ·
        obtain ⟨g5, h⟩ := wp_gd h
        obtain ⟨c6, e7, h⟩ := wp_lt h
        refine dq_iast wi_452_45 t_240 g5 e7 ?_
        obtain ⟨v9, e10, h⟩ := wp_lt h
        refine dl_inc wi_452_46 l3 rfl e10 (fun lv l3 t8 => ?_)
        have l0 := t8 _ _ (by decide) (Or.inl rfl) l0
        have l1 := t8 _ _ (by decide) (Or.inl rfl) l1
        have l2 := t8 _ _ (by decide) (Or.inl rfl) l2
        refine rs_goto (tg := 2) wi_452_49 ⟨by decide, by decide⟩ ?_
        exact h _ l0 l1 l2 l3
      refine rs_icge (tg := 39) wi_452_20 ⟨by decide, by decide⟩ (fun q => ?_) (fun q => ?_)
      ·
        have h := wp_pos h q
        refine rs_aldn wi_452_39 l0 ?_
        refine dq_gr wi_452_40 wf_452_116 tf_174_23 ?_
        refine rs_ildn wi_452_43 l2 ?_
        obtain ⟨g11, h⟩ := wp_gd h
        refine dq_iald wi_452_44 t_188 g11 ?_
        exact hj45 _ h _ l0 l1 l2 l3
      ·
        have h := wp_neg h q
        refine rs_aldn wi_452_23 l0 ?_
        refine dq_gr wi_452_24 wf_452_261 tf_174_85 ?_
        refine rs_ildn wi_452_27 l1 ?_
        refine rs_S wi_452_28 wc_452_661 (Or.inl rfl) rfl (Nat.le_trans (by decide) hF) (ml_le wm_422 (Nat.le_trans (by decide) hLo)) rfl (sp_422 (Nat.le_trans (by decide : 0 ≤ 1 - 1) (Nat.sub_le_sub_right hF 1)) (ml_sub wm_422 (Nat.le_trans (by decide : 0 ≤ 20 - 20) (Nat.sub_le_sub_right hLo 20))) (wp_bind h) (fun v12 h => rs_back1 ?_))
        refine rs_pure wi_452_31 rfl ?_
        refine rs_topi (v := 1) (by decide) ?_
        refine rs_pure wi_452_32 rfl ?_
        refine rs_ildn wi_452_33 l3 ?_
        refine rs_pure wi_452_34 rfl ?_
        obtain ⟨g13, h⟩ := wp_gd h
        refine dq_iald wi_452_35 t_236 g13 ?_
        refine rs_goto (tg := 45) wi_452_36 ⟨by decide, by decide⟩ ?_
        exact hj45 _ h _ l0 l1 l2 l3
  ·
    intro x14 h lv
    exact rs_vret wi_452_52 wr_452 (hQ x14 h)
theorem t_238 : ta false 238 0 61440 := ⟨rfl, by decide, by decide⟩
theorem t_239 : ta false 239 3 3840 := ⟨rfl, by decide, by decide⟩
theorem tf_174_87 : fo false 174 15 87 (.ref 238) := ⟨_, rfl, rfl, by decide, by decide⟩
theorem tf_174_88 : fo false 174 15 88 (.ref 239) := ⟨_, rfl, rfl, by decide, by decide⟩
theorem tf_174_90 : fo false 174 15 90 (.int 0) := ⟨_, rfl, rfl, by decide, by decide⟩
theorem wc_455_727 : rx_ct (rt_P sc fm) 455 727 = some (0, 390, 3) := (by decide +kernel : rt_ct 455 727 = some (0, 390, 3))
theorem wf_455_243 : rx_ft (rt_P sc fm) 455 243 = some (15, 70) := (by decide +kernel : rt_ft 455 243 = some (15, 70))
theorem wf_455_268 : rx_ft (rt_P sc fm) 455 268 = some (15, 87) := (by decide +kernel : rt_ft 455 268 = some (15, 87))
theorem wf_455_271 : rx_ft (rt_P sc fm) 455 271 = some (15, 88) := (by decide +kernel : rt_ft 455 271 = some (15, 88))
theorem wf_455_274 : rx_ft (rt_P sc fm) 455 274 = some (15, 89) := (by decide +kernel : rt_ft 455 274 = some (15, 89))
theorem wi_455_0 : ri (rt_P sc fm) 455 0 (.aload_n 0) (1) := ri_of (by decide +kernel) rfl
theorem wi_455_1 : ri (rt_P sc fm) 455 1 (.getfield 271) (4) := ri_of (by decide +kernel) rfl
theorem wi_455_10 : ri (rt_P sc fm) 455 10 (.getfield 271) (13) := ri_of (by decide +kernel) rfl
theorem wi_455_100 : ri (rt_P sc fm) 455 100 (.iload_n 1) (101) := ri_of (by decide +kernel) rfl
theorem wi_455_101 : ri (rt_P sc fm) 455 101 (.imul) (102) := ri_of (by decide +kernel) rfl
theorem wi_455_102 : ri (rt_P sc fm) 455 102 (.iload_n 3) (103) := ri_of (by decide +kernel) rfl
theorem wi_455_103 : ri (rt_P sc fm) 455 103 (.iadd) (104) := ri_of (by decide +kernel) rfl
theorem wi_455_104 : ri (rt_P sc fm) 455 104 (.iaload) (105) := ri_of (by decide +kernel) rfl
theorem wi_455_105 : ri (rt_P sc fm) 455 105 (.if_icmp .eq 8) (108) := ri_of (by decide +kernel) rfl
theorem wi_455_108 : ri (rt_P sc fm) 455 108 (.aload_n 0) (109) := ri_of (by decide +kernel) rfl
theorem wi_455_109 : ri (rt_P sc fm) 455 109 (.iconst 1) (110) := ri_of (by decide +kernel) rfl
theorem wi_455_110 : ri (rt_P sc fm) 455 110 (.putfield 841) (113) := ri_of (by decide +kernel) rfl
theorem wi_455_113 : ri (rt_P sc fm) 455 113 (.aload_n 0) (114) := ri_of (by decide +kernel) rfl
theorem wi_455_114 : ri (rt_P sc fm) 455 114 (.getfield 268) (117) := ri_of (by decide +kernel) rfl
theorem wi_455_117 : ri (rt_P sc fm) 455 117 (.bipush 16) (119) := ri_of (by decide +kernel) rfl
theorem wi_455_119 : ri (rt_P sc fm) 455 119 (.iload_n 1) (120) := ri_of (by decide +kernel) rfl
theorem wi_455_120 : ri (rt_P sc fm) 455 120 (.imul) (121) := ri_of (by decide +kernel) rfl
theorem wi_455_121 : ri (rt_P sc fm) 455 121 (.iload_n 3) (122) := ri_of (by decide +kernel) rfl
theorem wi_455_122 : ri (rt_P sc fm) 455 122 (.iadd) (123) := ri_of (by decide +kernel) rfl
theorem wi_455_123 : ri (rt_P sc fm) 455 123 (.iload 4) (125) := ri_of (by decide +kernel) rfl
theorem wi_455_125 : ri (rt_P sc fm) 455 125 (.iastore) (126) := ri_of (by decide +kernel) rfl
theorem wi_455_126 : ri (rt_P sc fm) 455 126 (.iinc 3 1) (129) := ri_of (by decide +kernel) rfl
theorem wi_455_129 : ri (rt_P sc fm) 455 129 (.goto (-74)) (132) := ri_of (by decide +kernel) rfl
theorem wi_455_13 : ri (rt_P sc fm) 455 13 (.iload_n 1) (14) := ri_of (by decide +kernel) rfl
theorem wi_455_132 : ri (rt_P sc fm) 455 132 (.return_) (133) := ri_of (by decide +kernel) rfl
theorem wi_455_14 : ri (rt_P sc fm) 455 14 (.iconst 1) (15) := ri_of (by decide +kernel) rfl
theorem wi_455_15 : ri (rt_P sc fm) 455 15 (.bastore) (16) := ri_of (by decide +kernel) rfl
theorem wi_455_16 : ri (rt_P sc fm) 455 16 (.aload_n 0) (17) := ri_of (by decide +kernel) rfl
theorem wi_455_17 : ri (rt_P sc fm) 455 17 (.iconst 1) (18) := ri_of (by decide +kernel) rfl
theorem wi_455_18 : ri (rt_P sc fm) 455 18 (.putfield 841) (21) := ri_of (by decide +kernel) rfl
theorem wi_455_21 : ri (rt_P sc fm) 455 21 (.iconst 0) (22) := ri_of (by decide +kernel) rfl
theorem wi_455_22 : ri (rt_P sc fm) 455 22 (.istore_n 3) (23) := ri_of (by decide +kernel) rfl
theorem wi_455_23 : ri (rt_P sc fm) 455 23 (.iload_n 3) (24) := ri_of (by decide +kernel) rfl
theorem wi_455_24 : ri (rt_P sc fm) 455 24 (.bipush 16) (26) := ri_of (by decide +kernel) rfl
theorem wi_455_26 : ri (rt_P sc fm) 455 26 (.if_icmp .ge 26) (29) := ri_of (by decide +kernel) rfl
theorem wi_455_29 : ri (rt_P sc fm) 455 29 (.aload_n 0) (30) := ri_of (by decide +kernel) rfl
theorem wi_455_30 : ri (rt_P sc fm) 455 30 (.getfield 268) (33) := ri_of (by decide +kernel) rfl
theorem wi_455_33 : ri (rt_P sc fm) 455 33 (.bipush 16) (35) := ri_of (by decide +kernel) rfl
theorem wi_455_35 : ri (rt_P sc fm) 455 35 (.iload_n 1) (36) := ri_of (by decide +kernel) rfl
theorem wi_455_36 : ri (rt_P sc fm) 455 36 (.imul) (37) := ri_of (by decide +kernel) rfl
theorem wi_455_37 : ri (rt_P sc fm) 455 37 (.iload_n 3) (38) := ri_of (by decide +kernel) rfl
theorem wi_455_38 : ri (rt_P sc fm) 455 38 (.iadd) (39) := ri_of (by decide +kernel) rfl
theorem wi_455_39 : ri (rt_P sc fm) 455 39 (.aload_n 0) (40) := ri_of (by decide +kernel) rfl
theorem wi_455_4 : ri (rt_P sc fm) 455 4 (.iload_n 1) (5) := ri_of (by decide +kernel) rfl
theorem wi_455_40 : ri (rt_P sc fm) 455 40 (.getfield 274) (43) := ri_of (by decide +kernel) rfl
theorem wi_455_43 : ri (rt_P sc fm) 455 43 (.iload_n 3) (44) := ri_of (by decide +kernel) rfl
theorem wi_455_44 : ri (rt_P sc fm) 455 44 (.iaload) (45) := ri_of (by decide +kernel) rfl
theorem wi_455_45 : ri (rt_P sc fm) 455 45 (.iastore) (46) := ri_of (by decide +kernel) rfl
theorem wi_455_46 : ri (rt_P sc fm) 455 46 (.iinc 3 1) (49) := ri_of (by decide +kernel) rfl
theorem wi_455_49 : ri (rt_P sc fm) 455 49 (.goto (-26)) (52) := ri_of (by decide +kernel) rfl
theorem wi_455_5 : ri (rt_P sc fm) 455 5 (.baload) (6) := ri_of (by decide +kernel) rfl
theorem wi_455_52 : ri (rt_P sc fm) 455 52 (.return_) (53) := ri_of (by decide +kernel) rfl
theorem wi_455_53 : ri (rt_P sc fm) 455 53 (.iconst 0) (54) := ri_of (by decide +kernel) rfl
theorem wi_455_54 : ri (rt_P sc fm) 455 54 (.istore_n 3) (55) := ri_of (by decide +kernel) rfl
theorem wi_455_55 : ri (rt_P sc fm) 455 55 (.iload_n 3) (56) := ri_of (by decide +kernel) rfl
theorem wi_455_56 : ri (rt_P sc fm) 455 56 (.bipush 8) (58) := ri_of (by decide +kernel) rfl
theorem wi_455_58 : ri (rt_P sc fm) 455 58 (.aload_n 0) (59) := ri_of (by decide +kernel) rfl
theorem wi_455_59 : ri (rt_P sc fm) 455 59 (.getfield 243) (62) := ri_of (by decide +kernel) rfl
theorem wi_455_6 : ri (rt_P sc fm) 455 6 (.ifCond .ne 47) (9) := ri_of (by decide +kernel) rfl
theorem wi_455_62 : ri (rt_P sc fm) 455 62 (.iload_n 1) (63) := ri_of (by decide +kernel) rfl
theorem wi_455_63 : ri (rt_P sc fm) 455 63 (.iaload) (64) := ri_of (by decide +kernel) rfl
theorem wi_455_64 : ri (rt_P sc fm) 455 64 (.iadd) (65) := ri_of (by decide +kernel) rfl
theorem wi_455_65 : ri (rt_P sc fm) 455 65 (.if_icmp .ge 67) (68) := ri_of (by decide +kernel) rfl
theorem wi_455_68 : ri (rt_P sc fm) 455 68 (.aload_n 0) (69) := ri_of (by decide +kernel) rfl
theorem wi_455_69 : ri (rt_P sc fm) 455 69 (.iload_n 2) (70) := ri_of (by decide +kernel) rfl
theorem wi_455_70 : ri (rt_P sc fm) 455 70 (.aload_n 0) (71) := ri_of (by decide +kernel) rfl
theorem wi_455_71 : ri (rt_P sc fm) 455 71 (.getfield 268) (74) := ri_of (by decide +kernel) rfl
theorem wi_455_74 : ri (rt_P sc fm) 455 74 (.bipush 16) (76) := ri_of (by decide +kernel) rfl
theorem wi_455_76 : ri (rt_P sc fm) 455 76 (.iload_n 1) (77) := ri_of (by decide +kernel) rfl
theorem wi_455_77 : ri (rt_P sc fm) 455 77 (.imul) (78) := ri_of (by decide +kernel) rfl
theorem wi_455_78 : ri (rt_P sc fm) 455 78 (.iload_n 3) (79) := ri_of (by decide +kernel) rfl
theorem wi_455_79 : ri (rt_P sc fm) 455 79 (.iadd) (80) := ri_of (by decide +kernel) rfl
theorem wi_455_80 : ri (rt_P sc fm) 455 80 (.iaload) (81) := ri_of (by decide +kernel) rfl
theorem wi_455_81 : ri (rt_P sc fm) 455 81 (.aload_n 0) (82) := ri_of (by decide +kernel) rfl
theorem wi_455_82 : ri (rt_P sc fm) 455 82 (.getfield 274) (85) := ri_of (by decide +kernel) rfl
theorem wi_455_85 : ri (rt_P sc fm) 455 85 (.iload_n 3) (86) := ri_of (by decide +kernel) rfl
theorem wi_455_86 : ri (rt_P sc fm) 455 86 (.iaload) (87) := ri_of (by decide +kernel) rfl
theorem wi_455_87 : ri (rt_P sc fm) 455 87 (.invokevirtual 727) (90) := ri_of (by decide +kernel) rfl
theorem wi_455_9 : ri (rt_P sc fm) 455 9 (.aload_n 0) (10) := ri_of (by decide +kernel) rfl
theorem wi_455_90 : ri (rt_P sc fm) 455 90 (.istore 4) (92) := ri_of (by decide +kernel) rfl
theorem wi_455_92 : ri (rt_P sc fm) 455 92 (.iload 4) (94) := ri_of (by decide +kernel) rfl
theorem wi_455_94 : ri (rt_P sc fm) 455 94 (.aload_n 0) (95) := ri_of (by decide +kernel) rfl
theorem wi_455_95 : ri (rt_P sc fm) 455 95 (.getfield 268) (98) := ri_of (by decide +kernel) rfl
theorem wi_455_98 : ri (rt_P sc fm) 455 98 (.bipush 16) (100) := ri_of (by decide +kernel) rfl
theorem wp_455_841 : rx_pt (rt_P sc fm) 455 841 = some (15, 90, .boolean) := (by decide +kernel : rt_pt 455 841 = some (15, 90, .boolean))
theorem wr_455 : rx_rt (rt_P sc fm) 455 = none := (by decide +kernel : rt_rt 455 = none)
/-- MarkHouseModel.comes(II)V -/
def d_455 (n : Nat) (a1 : Int32) (a2 : Int32) (c : cS) : Option (cS) :=
  if ib a1 3840 then
  if (c.1 239 (ix a1)) = 0 then
    if ib a1 3840 then
    lt (pI c 239 (ix a1) (vp_nar .boolean 1)) (fun c21 =>
    lt (pI c21 174 90 1) (fun c23 =>
    Option.bind (whl (R := (cS)) (fun s26 : Int32 × cS =>
      if 16 ≤ s26.1 then
        some (.inr s26.2)
      else
        if ib s26.1 16 then
        if ib ((16 * a1) + s26.1) 61440 then
        lt (pI s26.2 238 (ix ((16 * a1) + s26.1)) (s26.2.1 240 (ix s26.1))) (fun c29 =>
        lt (s26.1 + 1 : Int32) (fun v32 =>
        some (.inl (v32, c29))))
        else none
        else none) n (0, c23))
    (fun x34 : cS =>
      some x34)))
    else none
  else
    Option.bind (whl (R := (cS)) (fun s3 : Int32 × cS =>
      if ib a1 3840 then
      if (8 + (s3.2.1 230 (ix a1))) ≤ s3.1 then
        some (.inr s3.2)
      else
        if ib ((16 * a1) + s3.1) 61440 then
        if ib s3.1 16 then
        Option.bind (d_390 n a2 (s3.2.1 238 (ix ((16 * a1) + s3.1))) (s3.2.1 240 (ix s3.1)) s3.2) (fun v7 =>
        if ib ((16 * a1) + s3.1) 61440 then
        jn (fun p10 : cS =>
          if ib ((16 * a1) + s3.1) 61440 then
          lt (pI p10 238 (ix ((16 * a1) + s3.1)) v7) (fun c12 =>
          lt (s3.1 + 1 : Int32) (fun v15 =>
          some (.inl (v15, c12))))
          else none)
        (fun j113 =>
        if v7 = (s3.2.1 238 (ix ((16 * a1) + s3.1))) then
          j113 s3.2
        else
          lt (pI s3.2 174 90 1) (fun c17 =>
          j113 c17))
        else none)
        else none
        else none
      else none) n (0, c))
    (fun x19 : cS =>
      some x19)
  else none
theorem sp_455 {F Lo n : Nat} {a1 : Int32} {a2 : Int32} {c y : cS} {w : cW} {K : cS → Prop} {Q : ((Option Value) ⊕ String) → List va_E → Prop} (hw : rOK fm w) (hF : 2 ≤ F) (hLo : 46 ≤ Lo)  (h : wp (d_455 n a1 a2 c) K) (hQ : ∀ r, K r → Q (.inl none) (hq false r y w)) : rs (rt_P sc fm) 455 F Lo 0 [(0, .ref 174), (1, .int a1), (2, .int a2)] [] (hq false c y w) Q := by
  unfold d_455 at h
  obtain ⟨lv, elv⟩ : ∃ lv : rx_L, lv = [(0, .ref 174), (1, .int a1), (2, .int a2)] := ⟨_, rfl⟩
  rw [← elv]
  have l0 : rx_ld lv 0 = some (.ref 174) := by rw [elv]; rfl
  have l1 : rx_ld lv 1 = some (.int a1) := by rw [elv]; rfl
  have l2 : rx_ld lv 2 = some (.int a2) := by rw [elv]; rfl
  refine rs_aldn wi_455_0 l0 ?_
  refine dq_gr wi_455_1 wf_455_271 tf_174_88 ?_
  refine rs_ildn wi_455_4 l1 ?_
  obtain ⟨g1, h⟩ := wp_gd h
  refine dq_zald wi_455_5 t_239 g1 ?_
  refine rs_ifne (tg := 53) wi_455_6 ⟨by decide, by decide⟩ (fun q => ?_) (fun q => ?_)
  ·
    have h := wp_neg h q
    refine rs_pure wi_455_53 rfl ?_
    refine rs_topi (v := 0) (by decide) ?_
    refine dl_istn wi_455_54 rfl (fun lv l3 t2 => ?_)
    have l0 := t2 _ _ (by decide) (Or.inl rfl) l0
    have l1 := t2 _ _ (by decide) (Or.inl rfl) l1
    have l2 := t2 _ _ (by decide) (Or.inl rfl) l2
    refine whl_ex (A := fun s3 : Int32 × cS => ∀ lv, rx_ld lv 0 = some (.ref 174) → rx_ld lv 1 = some (.int a1) → rx_ld lv 2 = some (.int a2) → rx_ld lv 3 = some (.int s3.1) → rs (rt_P sc fm) 455 F Lo 55 lv [] (hq false s3.2 y w) Q) (B := (fun x19 : cS => ∀ lv, rs (rt_P sc fm) 455 F Lo 132 lv [] (hq false x19 y w) Q)) ?_ ?_ _ _ (wp_bind h) _ l0 l1 l2 l3
    · intro s3 h lv l0 l1 l2 l3
      refine rs_ildn wi_455_55 l3 ?_
      refine rs_pure wi_455_56 rfl ?_
      refine rs_topi (v := 8) (by decide) ?_
      refine rs_aldn wi_455_58 l0 ?_
      refine dq_gr wi_455_59 wf_455_243 tf_174_70 ?_
      refine rs_ildn wi_455_62 l1 ?_
      obtain ⟨g4, h⟩ := wp_gd h
      refine dq_iald wi_455_63 t_230 g4 ?_
      refine rs_pure wi_455_64 rfl ?_
      refine rs_icge (tg := 132) wi_455_65 ⟨by decide, by decide⟩ (fun q => ?_) (fun q => ?_)
      ·
        have h := wp_pos h q
        exact h _
      ·
        have h := wp_neg h q
        refine rs_aldn wi_455_68 l0 ?_
        refine rs_ildn wi_455_69 l2 ?_
        refine rs_aldn wi_455_70 l0 ?_
        refine dq_gr wi_455_71 wf_455_268 tf_174_87 ?_
        refine rs_pure wi_455_74 rfl ?_
        refine rs_topi (v := 16) (by decide) ?_
        refine rs_ildn wi_455_76 l1 ?_
        refine rs_pure wi_455_77 rfl ?_
        refine rs_ildn wi_455_78 l3 ?_
        refine rs_pure wi_455_79 rfl ?_
        obtain ⟨g5, h⟩ := wp_gd h
        refine dq_iald wi_455_80 t_238 g5 ?_
        refine rs_aldn wi_455_81 l0 ?_
        refine dq_gr wi_455_82 wf_455_274 tf_174_89 ?_
        refine rs_ildn wi_455_85 l3 ?_
        obtain ⟨g6, h⟩ := wp_gd h
        refine dq_iald wi_455_86 t_240 g6 ?_
        refine rs_V wi_455_87 wc_455_727 rfl (dq_isa tf_174_0 wa_15_390) (Nat.le_trans (by decide) hF) (ml_le wm_390 (Nat.le_trans (by decide) hLo)) rfl (sp_390 hw (Nat.le_trans (by decide : 1 ≤ 2 - 1) (Nat.sub_le_sub_right hF 1)) (ml_sub wm_390 (Nat.le_trans (by decide : 23 ≤ 46 - 23) (Nat.sub_le_sub_right hLo 23))) (wp_bind h) (fun v7 h => rs_back1 ?_))
        refine dl_ist wi_455_90 rfl (fun lv l4 t8 => ?_)
        have l0 := t8 _ _ (by decide) (Or.inl rfl) l0
        have l1 := t8 _ _ (by decide) (Or.inl rfl) l1
        have l2 := t8 _ _ (by decide) (Or.inl rfl) l2
        have l3 := t8 _ _ (by decide) (Or.inl rfl) l3
        refine rs_ild wi_455_92 l4 ?_
        refine rs_aldn wi_455_94 l0 ?_
        refine dq_gr wi_455_95 wf_455_268 tf_174_87 ?_
        refine rs_pure wi_455_98 rfl ?_
        refine rs_topi (v := 16) (by decide) ?_
        refine rs_ildn wi_455_100 l1 ?_
        refine rs_pure wi_455_101 rfl ?_
        refine rs_ildn wi_455_102 l3 ?_
        refine rs_pure wi_455_103 rfl ?_
        obtain ⟨g9, h⟩ := wp_gd h
        refine dq_iald wi_455_104 t_238 g9 ?_
        refine wp_jn (B := fun p10 : cS => ∀ lv, rx_ld lv 0 = some (.ref 174) → rx_ld lv 1 = some (.int a1) → rx_ld lv 2 = some (.int a2) → rx_ld lv 3 = some (.int s3.1) → rx_ld lv 4 = some (.int v7) → rs (rt_P sc fm) 455 F Lo 113 lv [] (hq false p10 y w) Q) h (fun p10 h lv l0 l1 l2 l3 l4 => ?_) (fun j113 hj113 h => ?_)
        ·
          refine rs_aldn wi_455_113 l0 ?_
          refine dq_gr wi_455_114 wf_455_268 tf_174_87 ?_
          refine rs_pure wi_455_117 rfl ?_
          refine rs_topi (v := 16) (by decide) ?_
          refine rs_ildn wi_455_119 l1 ?_
          refine rs_pure wi_455_120 rfl ?_
          refine rs_ildn wi_455_121 l3 ?_
          refine rs_pure wi_455_122 rfl ?_
          refine rs_ild wi_455_123 l4 ?_
          obtain ⟨g11, h⟩ := wp_gd h
          obtain ⟨c12, e13, h⟩ := wp_lt h
          refine dq_iast wi_455_125 t_238 g11 e13 ?_
          obtain ⟨v15, e16, h⟩ := wp_lt h
          refine dl_inc wi_455_126 l3 rfl e16 (fun lv l3 t14 => ?_)
          have l0 := t14 _ _ (by decide) (Or.inl rfl) l0
          have l1 := t14 _ _ (by decide) (Or.inl rfl) l1
          have l2 := t14 _ _ (by decide) (Or.inl rfl) l2
          refine rs_goto (tg := 55) wi_455_129 ⟨by decide, by decide⟩ ?_
          exact h _ l0 l1 l2 l3
        refine rs_iceq (tg := 113) wi_455_105 ⟨by decide, by decide⟩ (fun q => ?_) (fun q => ?_)
        ·
          have h := wp_pos h q
          exact hj113 _ h _ l0 l1 l2 l3 l4
        ·
          have h := wp_neg h q
          refine rs_aldn wi_455_108 l0 ?_
          refine rs_pure wi_455_109 rfl ?_
          refine rs_topi (v := 1) (by decide) ?_
          obtain ⟨c17, e18, h⟩ := wp_lt h
          refine dq_pi wi_455_110 wp_455_841 tf_174_90 (nb_n (by decide)) (nb_f (by decide)) e18 ?_
          exact hj113 _ h _ l0 l1 l2 l3 l4
    ·
      intro x19 h lv
      exact rs_vret wi_455_132 wr_455 (hQ x19 h)
  ·
    have h := wp_pos h q
    refine rs_aldn wi_455_9 l0 ?_
    refine dq_gr wi_455_10 wf_455_271 tf_174_88 ?_
    refine rs_ildn wi_455_13 l1 ?_
    refine rs_pure wi_455_14 rfl ?_
    refine rs_topi (v := 1) (by decide) ?_
    obtain ⟨g20, h⟩ := wp_gd h
    obtain ⟨c21, e22, h⟩ := wp_lt h
    refine dq_zast wi_455_15 t_239 g20 e22 ?_
    refine rs_aldn wi_455_16 l0 ?_
    refine rs_pure wi_455_17 rfl ?_
    refine rs_topi (v := 1) (by decide) ?_
    obtain ⟨c23, e24, h⟩ := wp_lt h
    refine dq_pi wi_455_18 wp_455_841 tf_174_90 (nb_n (by decide)) (nb_f (by decide)) e24 ?_
    refine rs_pure wi_455_21 rfl ?_
    refine rs_topi (v := 0) (by decide) ?_
    refine dl_istn wi_455_22 rfl (fun lv l3 t25 => ?_)
    have l0 := t25 _ _ (by decide) (Or.inl rfl) l0
    have l1 := t25 _ _ (by decide) (Or.inl rfl) l1
    refine whl_ex (A := fun s26 : Int32 × cS => ∀ lv, rx_ld lv 0 = some (.ref 174) → rx_ld lv 1 = some (.int a1) → rx_ld lv 3 = some (.int s26.1) → rs (rt_P sc fm) 455 F Lo 23 lv [] (hq false s26.2 y w) Q) (B := (fun x34 : cS => ∀ lv, rs (rt_P sc fm) 455 F Lo 52 lv [] (hq false x34 y w) Q)) ?_ ?_ _ _ (wp_bind h) _ l0 l1 l3
    · intro s26 h lv l0 l1 l3
      refine rs_ildn wi_455_23 l3 ?_
      refine rs_pure wi_455_24 rfl ?_
      refine rs_topi (v := 16) (by decide) ?_
      refine rs_icge (tg := 52) wi_455_26 ⟨by decide, by decide⟩ (fun q => ?_) (fun q => ?_)
      ·
        have h := wp_pos h q
        exact h _
      ·
        have h := wp_neg h q
        refine rs_aldn wi_455_29 l0 ?_
        refine dq_gr wi_455_30 wf_455_268 tf_174_87 ?_
        refine rs_pure wi_455_33 rfl ?_
        refine rs_topi (v := 16) (by decide) ?_
        refine rs_ildn wi_455_35 l1 ?_
        refine rs_pure wi_455_36 rfl ?_
        refine rs_ildn wi_455_37 l3 ?_
        refine rs_pure wi_455_38 rfl ?_
        refine rs_aldn wi_455_39 l0 ?_
        refine dq_gr wi_455_40 wf_455_274 tf_174_89 ?_
        refine rs_ildn wi_455_43 l3 ?_
        obtain ⟨g27, h⟩ := wp_gd h
        refine dq_iald wi_455_44 t_240 g27 ?_
        obtain ⟨g28, h⟩ := wp_gd h
        obtain ⟨c29, e30, h⟩ := wp_lt h
        refine dq_iast wi_455_45 t_238 g28 e30 ?_
        obtain ⟨v32, e33, h⟩ := wp_lt h
        refine dl_inc wi_455_46 l3 rfl e33 (fun lv l3 t31 => ?_)
        have l0 := t31 _ _ (by decide) (Or.inl rfl) l0
        have l1 := t31 _ _ (by decide) (Or.inl rfl) l1
        refine rs_goto (tg := 23) wi_455_49 ⟨by decide, by decide⟩ ?_
        exact h _ l0 l1 l3
    ·
      intro x34 h lv
      exact rs_vret wi_455_52 wr_455 (hQ x34 h)
theorem wi_451_0 : ri (rt_P sc fm) 451 0 (.bipush 100) (2) := ri_of (by decide +kernel) rfl
theorem wi_451_2 : ri (rt_P sc fm) 451 2 (.iload_n 0) (3) := ri_of (by decide +kernel) rfl
theorem wi_451_3 : ri (rt_P sc fm) 451 3 (.imul) (4) := ri_of (by decide +kernel) rfl
theorem wi_451_4 : ri (rt_P sc fm) 451 4 (.iconst 1) (5) := ri_of (by decide +kernel) rfl
theorem wi_451_5 : ri (rt_P sc fm) 451 5 (.iadd) (6) := ri_of (by decide +kernel) rfl
theorem wi_451_6 : ri (rt_P sc fm) 451 6 (.iload_n 1) (7) := ri_of (by decide +kernel) rfl
theorem wi_451_7 : ri (rt_P sc fm) 451 7 (.iadd) (8) := ri_of (by decide +kernel) rfl
theorem wi_451_8 : ri (rt_P sc fm) 451 8 (.ireturn) (9) := ri_of (by decide +kernel) rfl
theorem wr_451 : rx_rt (rt_P sc fm) 451 = (some FieldType.int) := (by decide +kernel : rt_rt 451 = (some FieldType.int))
/-- MarkHouseModel.fieldPlace(II)I -/
def d_451 (n : Nat) (a0 : Int32) (a1 : Int32) : Option (Int32) :=
  some (((100 * a0) + 1) + a1)
theorem sp_451 {F Lo n : Nat} {a0 : Int32} {a1 : Int32} {L : List va_E} {K : Int32 → Prop} {Q : ((Option Value) ⊕ String) → List va_E → Prop} (hF : 0 ≤ F) (hLo : 0 ≤ Lo)  (h : wp (d_451 n a0 a1) K) (hQ : ∀ r, K r → Q (.inl (some (.int r))) L) : rs (rt_P sc fm) 451 F Lo 0 [(0, .int a0), (1, .int a1)] [] L Q := by
  unfold d_451 at h
  obtain ⟨lv, elv⟩ : ∃ lv : rx_L, lv = [(0, .int a0), (1, .int a1)] := ⟨_, rfl⟩
  rw [← elv]
  have l0 : rx_ld lv 0 = some (.int a0) := by rw [elv]; rfl
  have l1 : rx_ld lv 1 = some (.int a1) := by rw [elv]; rfl
  refine rs_pure wi_451_0 rfl ?_
  refine rs_topi (v := 100) (by decide) ?_
  refine rs_ildn wi_451_2 l0 ?_
  refine rs_pure wi_451_3 rfl ?_
  refine rs_pure wi_451_4 rfl ?_
  refine rs_topi (v := 1) (by decide) ?_
  refine rs_pure wi_451_5 rfl ?_
  refine rs_ildn wi_451_6 l1 ?_
  refine rs_pure wi_451_7 rfl ?_
  exact rs_iret wi_451_8 wr_451 rfl (hQ (((100 * a0) + 1) + a1) h)
theorem wf_453_116 : rx_ft (rt_P sc fm) 453 116 = some (15, 23) := (by decide +kernel : rt_ft 453 116 = some (15, 23))
theorem wf_453_209 : rx_ft (rt_P sc fm) 453 209 = some (15, 57) := (by decide +kernel : rt_ft 453 209 = some (15, 57))
theorem wf_453_212 : rx_ft (rt_P sc fm) 453 212 = some (15, 58) := (by decide +kernel : rt_ft 453 212 = some (15, 58))
theorem wf_453_215 : rx_ft (rt_P sc fm) 453 215 = some (15, 59) := (by decide +kernel : rt_ft 453 215 = some (15, 59))
theorem wi_453_0 : ri (rt_P sc fm) 453 0 (.aload_n 0) (1) := ri_of (by decide +kernel) rfl
theorem wi_453_1 : ri (rt_P sc fm) 453 1 (.getfield 116) (4) := ri_of (by decide +kernel) rfl
theorem wi_453_10 : ri (rt_P sc fm) 453 10 (.iload 4) (12) := ri_of (by decide +kernel) rfl
theorem wi_453_12 : ri (rt_P sc fm) 453 12 (.aload_n 0) (13) := ri_of (by decide +kernel) rfl
theorem wi_453_13 : ri (rt_P sc fm) 453 13 (.getfield 209) (16) := ri_of (by decide +kernel) rfl
theorem wi_453_16 : ri (rt_P sc fm) 453 16 (.iload_n 1) (17) := ri_of (by decide +kernel) rfl
theorem wi_453_17 : ri (rt_P sc fm) 453 17 (.iaload) (18) := ri_of (by decide +kernel) rfl
theorem wi_453_18 : ri (rt_P sc fm) 453 18 (.if_icmp .ge 40) (21) := ri_of (by decide +kernel) rfl
theorem wi_453_21 : ri (rt_P sc fm) 453 21 (.aload_n 0) (22) := ri_of (by decide +kernel) rfl
theorem wi_453_22 : ri (rt_P sc fm) 453 22 (.getfield 212) (25) := ri_of (by decide +kernel) rfl
theorem wi_453_25 : ri (rt_P sc fm) 453 25 (.iconst 4) (26) := ri_of (by decide +kernel) rfl
theorem wi_453_26 : ri (rt_P sc fm) 453 26 (.iload_n 1) (27) := ri_of (by decide +kernel) rfl
theorem wi_453_27 : ri (rt_P sc fm) 453 27 (.imul) (28) := ri_of (by decide +kernel) rfl
theorem wi_453_28 : ri (rt_P sc fm) 453 28 (.iload 4) (30) := ri_of (by decide +kernel) rfl
theorem wi_453_30 : ri (rt_P sc fm) 453 30 (.iadd) (31) := ri_of (by decide +kernel) rfl
theorem wi_453_31 : ri (rt_P sc fm) 453 31 (.iaload) (32) := ri_of (by decide +kernel) rfl
theorem wi_453_32 : ri (rt_P sc fm) 453 32 (.iload_n 2) (33) := ri_of (by decide +kernel) rfl
theorem wi_453_33 : ri (rt_P sc fm) 453 33 (.if_icmp .ne 17) (36) := ri_of (by decide +kernel) rfl
theorem wi_453_36 : ri (rt_P sc fm) 453 36 (.aload_n 0) (37) := ri_of (by decide +kernel) rfl
theorem wi_453_37 : ri (rt_P sc fm) 453 37 (.getfield 215) (40) := ri_of (by decide +kernel) rfl
theorem wi_453_4 : ri (rt_P sc fm) 453 4 (.iload_n 2) (5) := ri_of (by decide +kernel) rfl
theorem wi_453_40 : ri (rt_P sc fm) 453 40 (.iconst 4) (41) := ri_of (by decide +kernel) rfl
theorem wi_453_41 : ri (rt_P sc fm) 453 41 (.iload_n 1) (42) := ri_of (by decide +kernel) rfl
theorem wi_453_42 : ri (rt_P sc fm) 453 42 (.imul) (43) := ri_of (by decide +kernel) rfl
theorem wi_453_43 : ri (rt_P sc fm) 453 43 (.iload 4) (45) := ri_of (by decide +kernel) rfl
theorem wi_453_45 : ri (rt_P sc fm) 453 45 (.iadd) (46) := ri_of (by decide +kernel) rfl
theorem wi_453_46 : ri (rt_P sc fm) 453 46 (.iaload) (47) := ri_of (by decide +kernel) rfl
theorem wi_453_47 : ri (rt_P sc fm) 453 47 (.goto 4) (50) := ri_of (by decide +kernel) rfl
theorem wi_453_5 : ri (rt_P sc fm) 453 5 (.iaload) (6) := ri_of (by decide +kernel) rfl
theorem wi_453_50 : ri (rt_P sc fm) 453 50 (.iload_n 3) (51) := ri_of (by decide +kernel) rfl
theorem wi_453_51 : ri (rt_P sc fm) 453 51 (.istore_n 3) (52) := ri_of (by decide +kernel) rfl
theorem wi_453_52 : ri (rt_P sc fm) 453 52 (.iinc 4 1) (55) := ri_of (by decide +kernel) rfl
theorem wi_453_55 : ri (rt_P sc fm) 453 55 (.goto (-45)) (58) := ri_of (by decide +kernel) rfl
theorem wi_453_58 : ri (rt_P sc fm) 453 58 (.iload_n 3) (59) := ri_of (by decide +kernel) rfl
theorem wi_453_59 : ri (rt_P sc fm) 453 59 (.ireturn) (60) := ri_of (by decide +kernel) rfl
theorem wi_453_6 : ri (rt_P sc fm) 453 6 (.istore_n 3) (7) := ri_of (by decide +kernel) rfl
theorem wi_453_7 : ri (rt_P sc fm) 453 7 (.iconst 0) (8) := ri_of (by decide +kernel) rfl
theorem wi_453_8 : ri (rt_P sc fm) 453 8 (.istore 4) (10) := ri_of (by decide +kernel) rfl
theorem wr_453 : rx_rt (rt_P sc fm) 453 = (some FieldType.int) := (by decide +kernel : rt_rt 453 = (some FieldType.int))
/-- MarkHouseModel.toldOf(II)I -/
def d_453 (n : Nat) (a1 : Int32) (a2 : Int32) (c : cS) : Option (Int32) :=
  if ib a2 4 then
  lt ((c.1 188 (ix a2)) : Int32) (fun v3 =>
  Option.bind (whl (R := (Int32)) (fun s6 : Int32 × Int32 =>
    if ib a1 3840 then
    if (c.1 219 (ix a1)) ≤ s6.2 then
      some (.inr s6.1)
    else
      if ib ((4 * a1) + s6.2) 15360 then
      jn (fun p9 : Int32 =>
        lt (s6.2 + 1 : Int32) (fun v12 =>
        some (.inl (p9, v12))))
      (fun j51 =>
      if (c.1 220 (ix ((4 * a1) + s6.2))) = a2 then
        if ib ((4 * a1) + s6.2) 15360 then
        j51 (c.1 221 (ix ((4 * a1) + s6.2)))
        else none
      else
        j51 s6.1)
      else none
    else none) n (v3, 0))
  (fun x15 : Int32 =>
    some x15))
  else none
theorem sp_453 {F Lo n : Nat} {a1 : Int32} {a2 : Int32} {c y : cS} {w : cW} {K : Int32 → Prop} {Q : ((Option Value) ⊕ String) → List va_E → Prop} (hw : rOK fm w) (hF : 0 ≤ F) (hLo : 0 ≤ Lo)  (h : wp (d_453 n a1 a2 c) K) (hQ : ∀ r, K r → Q (.inl (some (.int r))) (hq false c y w)) : rs (rt_P sc fm) 453 F Lo 0 [(0, .ref 174), (1, .int a1), (2, .int a2)] [] (hq false c y w) Q := by
  unfold d_453 at h
  obtain ⟨lv, elv⟩ : ∃ lv : rx_L, lv = [(0, .ref 174), (1, .int a1), (2, .int a2)] := ⟨_, rfl⟩
  rw [← elv]
  have l0 : rx_ld lv 0 = some (.ref 174) := by rw [elv]; rfl
  have l1 : rx_ld lv 1 = some (.int a1) := by rw [elv]; rfl
  have l2 : rx_ld lv 2 = some (.int a2) := by rw [elv]; rfl
  refine rs_aldn wi_453_0 l0 ?_
  refine dq_gr wi_453_1 wf_453_116 tf_174_23 ?_
  refine rs_ildn wi_453_4 l2 ?_
  obtain ⟨g1, h⟩ := wp_gd h
  refine dq_iald wi_453_5 t_188 g1 ?_
  obtain ⟨v3, e4, h⟩ := wp_lt h
  refine rs_topi e4 ?_
  refine dl_istn wi_453_6 rfl (fun lv l3 t2 => ?_)
  have l0 := t2 _ _ (by decide) (Or.inl rfl) l0
  have l1 := t2 _ _ (by decide) (Or.inl rfl) l1
  have l2 := t2 _ _ (by decide) (Or.inl rfl) l2
  refine rs_pure wi_453_7 rfl ?_
  refine rs_topi (v := 0) (by decide) ?_
  refine dl_ist wi_453_8 rfl (fun lv l4 t5 => ?_)
  have l0 := t5 _ _ (by decide) (Or.inl rfl) l0
  have l1 := t5 _ _ (by decide) (Or.inl rfl) l1
  have l2 := t5 _ _ (by decide) (Or.inl rfl) l2
  have l3 := t5 _ _ (by decide) (Or.inl rfl) l3
  refine whl_ex (A := fun s6 : Int32 × Int32 => ∀ lv, rx_ld lv 0 = some (.ref 174) → rx_ld lv 1 = some (.int a1) → rx_ld lv 2 = some (.int a2) → rx_ld lv 3 = some (.int s6.1) → rx_ld lv 4 = some (.int s6.2) → rs (rt_P sc fm) 453 F Lo 10 lv [] (hq false c y w) Q) (B := (fun x15 : Int32 => ∀ lv, rx_ld lv 3 = some (.int x15) → rs (rt_P sc fm) 453 F Lo 58 lv [] (hq false c y w) Q)) ?_ ?_ _ _ (wp_bind h) _ l0 l1 l2 l3 l4
  · intro s6 h lv l0 l1 l2 l3 l4
    refine rs_ild wi_453_10 l4 ?_
    refine rs_aldn wi_453_12 l0 ?_
    refine dq_gr wi_453_13 wf_453_209 tf_174_57 ?_
    refine rs_ildn wi_453_16 l1 ?_
    obtain ⟨g7, h⟩ := wp_gd h
    refine dq_iald wi_453_17 t_219 g7 ?_
    refine rs_icge (tg := 58) wi_453_18 ⟨by decide, by decide⟩ (fun q => ?_) (fun q => ?_)
    ·
      have h := wp_pos h q
      exact h _ l3
    ·
      have h := wp_neg h q
      refine rs_aldn wi_453_21 l0 ?_
      refine dq_gr wi_453_22 wf_453_212 tf_174_58 ?_
      refine rs_pure wi_453_25 rfl ?_
      refine rs_topi (v := 4) (by decide) ?_
      refine rs_ildn wi_453_26 l1 ?_
      refine rs_pure wi_453_27 rfl ?_
      refine rs_ild wi_453_28 l4 ?_
      refine rs_pure wi_453_30 rfl ?_
      obtain ⟨g8, h⟩ := wp_gd h
      refine dq_iald wi_453_31 t_220 g8 ?_
      refine rs_ildn wi_453_32 l2 ?_
      refine wp_jn (B := fun p9 : Int32 => ∀ lv, rx_ld lv 0 = some (.ref 174) → rx_ld lv 1 = some (.int a1) → rx_ld lv 2 = some (.int a2) → rx_ld lv 4 = some (.int s6.2) → rs (rt_P sc fm) 453 F Lo 51 lv [.int p9] (hq false c y w) Q) h (fun p9 h lv l0 l1 l2 l4 => ?_) (fun j51 hj51 h => ?_)
      ·
        refine dl_istn wi_453_51 rfl (fun lv l3 t10 => ?_)
        have l0 := t10 _ _ (by decide) (Or.inl rfl) l0
        have l1 := t10 _ _ (by decide) (Or.inl rfl) l1
        have l2 := t10 _ _ (by decide) (Or.inl rfl) l2
        have l4 := t10 _ _ (by decide) (Or.inl rfl) l4
        obtain ⟨v12, e13, h⟩ := wp_lt h
        refine dl_inc wi_453_52 l4 rfl e13 (fun lv l4 t11 => ?_)
        have l0 := t11 _ _ (by decide) (Or.inl rfl) l0
        have l1 := t11 _ _ (by decide) (Or.inl rfl) l1
        have l2 := t11 _ _ (by decide) (Or.inl rfl) l2
        have l3 := t11 _ _ (by decide) (Or.inl rfl) l3
        refine rs_goto (tg := 10) wi_453_55 ⟨by decide, by decide⟩ ?_
        exact h _ l0 l1 l2 l3 l4
      refine rs_icne (tg := 50) wi_453_33 ⟨by decide, by decide⟩ (fun q => ?_) (fun q => ?_)
      ·
        have h := wp_neg h q
        refine rs_ildn wi_453_50 l3 ?_
        exact hj51 _ h _ l0 l1 l2 l4
      ·
        have h := wp_pos h q
        refine rs_aldn wi_453_36 l0 ?_
        refine dq_gr wi_453_37 wf_453_215 tf_174_59 ?_
        refine rs_pure wi_453_40 rfl ?_
        refine rs_topi (v := 4) (by decide) ?_
        refine rs_ildn wi_453_41 l1 ?_
        refine rs_pure wi_453_42 rfl ?_
        refine rs_ild wi_453_43 l4 ?_
        refine rs_pure wi_453_45 rfl ?_
        obtain ⟨g14, h⟩ := wp_gd h
        refine dq_iald wi_453_46 t_221 g14 ?_
        refine rs_goto (tg := 51) wi_453_47 ⟨by decide, by decide⟩ ?_
        exact hj51 _ h _ l0 l1 l2 l4
  ·
    intro x15 h lv l3
    refine rs_ildn wi_453_58 l3 ?_
    exact rs_iret wi_453_59 wr_453 rfl (hQ x15 h)
theorem wa_15_453 : rz_cn 15 (rx_yn (rt_P sc fm) 453).cls = true := (by decide +kernel : rz_cn 15 (rt_yn 453).cls = true)
theorem wc_454_661 : rx_ct (rt_P sc fm) 454 661 = some (1, 422, 1) := (by decide +kernel : rt_ct 454 661 = some (1, 422, 1))
theorem wc_454_727 : rx_ct (rt_P sc fm) 454 727 = some (0, 390, 3) := (by decide +kernel : rt_ct 454 727 = some (0, 390, 3))
theorem wc_454_835 : rx_ct (rt_P sc fm) 454 835 = some (0, 453, 2) := (by decide +kernel : rt_ct 454 835 = some (0, 453, 2))
theorem wc_454_838 : rx_ct (rt_P sc fm) 454 838 = some (1, 451, 2) := (by decide +kernel : rt_ct 454 838 = some (1, 451, 2))
theorem wf_454_173 : rx_ft (rt_P sc fm) 454 173 = some (15, 45) := (by decide +kernel : rt_ft 454 173 = some (15, 45))
theorem wf_454_185 : rx_ft (rt_P sc fm) 454 185 = some (15, 49) := (by decide +kernel : rt_ft 454 185 = some (15, 49))
theorem wf_454_194 : rx_ft (rt_P sc fm) 454 194 = some (15, 52) := (by decide +kernel : rt_ft 454 194 = some (15, 52))
theorem wf_454_197 : rx_ft (rt_P sc fm) 454 197 = some (15, 53) := (by decide +kernel : rt_ft 454 197 = some (15, 53))
theorem wf_454_243 : rx_ft (rt_P sc fm) 454 243 = some (15, 70) := (by decide +kernel : rt_ft 454 243 = some (15, 70))
theorem wf_454_261 : rx_ft (rt_P sc fm) 454 261 = some (15, 85) := (by decide +kernel : rt_ft 454 261 = some (15, 85))
theorem wf_454_274 : rx_ft (rt_P sc fm) 454 274 = some (15, 89) := (by decide +kernel : rt_ft 454 274 = some (15, 89))
theorem wi_454_0 : ri (rt_P sc fm) 454 0 (.bipush 8) (2) := ri_of (by decide +kernel) rfl
theorem wi_454_10 : ri (rt_P sc fm) 454 10 (.aload_n 0) (11) := ri_of (by decide +kernel) rfl
theorem wi_454_100 : ri (rt_P sc fm) 454 100 (.aload_n 0) (101) := ri_of (by decide +kernel) rfl
theorem wi_454_101 : ri (rt_P sc fm) 454 101 (.getfield 274) (104) := ri_of (by decide +kernel) rfl
theorem wi_454_104 : ri (rt_P sc fm) 454 104 (.iload_n 3) (105) := ri_of (by decide +kernel) rfl
theorem wi_454_105 : ri (rt_P sc fm) 454 105 (.aload_n 0) (106) := ri_of (by decide +kernel) rfl
theorem wi_454_106 : ri (rt_P sc fm) 454 106 (.iload_n 1) (107) := ri_of (by decide +kernel) rfl
theorem wi_454_107 : ri (rt_P sc fm) 454 107 (.iload_n 2) (108) := ri_of (by decide +kernel) rfl
theorem wi_454_108 : ri (rt_P sc fm) 454 108 (.invokevirtual 835) (111) := ri_of (by decide +kernel) rfl
theorem wi_454_11 : ri (rt_P sc fm) 454 11 (.getfield 185) (14) := ri_of (by decide +kernel) rfl
theorem wi_454_111 : ri (rt_P sc fm) 454 111 (.iastore) (112) := ri_of (by decide +kernel) rfl
theorem wi_454_112 : ri (rt_P sc fm) 454 112 (.return_) (113) := ri_of (by decide +kernel) rfl
theorem wi_454_113 : ri (rt_P sc fm) 454 113 (.aload_n 0) (114) := ri_of (by decide +kernel) rfl
theorem wi_454_114 : ri (rt_P sc fm) 454 114 (.getfield 274) (117) := ri_of (by decide +kernel) rfl
theorem wi_454_117 : ri (rt_P sc fm) 454 117 (.iload_n 3) (118) := ri_of (by decide +kernel) rfl
theorem wi_454_118 : ri (rt_P sc fm) 454 118 (.aload_n 0) (119) := ri_of (by decide +kernel) rfl
theorem wi_454_119 : ri (rt_P sc fm) 454 119 (.getfield 274) (122) := ri_of (by decide +kernel) rfl
theorem wi_454_122 : ri (rt_P sc fm) 454 122 (.aload_n 0) (123) := ri_of (by decide +kernel) rfl
theorem wi_454_123 : ri (rt_P sc fm) 454 123 (.getfield 194) (126) := ri_of (by decide +kernel) rfl
theorem wi_454_126 : ri (rt_P sc fm) 454 126 (.iload_n 1) (127) := ri_of (by decide +kernel) rfl
theorem wi_454_127 : ri (rt_P sc fm) 454 127 (.iaload) (128) := ri_of (by decide +kernel) rfl
theorem wi_454_128 : ri (rt_P sc fm) 454 128 (.iaload) (129) := ri_of (by decide +kernel) rfl
theorem wi_454_129 : ri (rt_P sc fm) 454 129 (.iastore) (130) := ri_of (by decide +kernel) rfl
theorem wi_454_130 : ri (rt_P sc fm) 454 130 (.return_) (131) := ri_of (by decide +kernel) rfl
theorem wi_454_131 : ri (rt_P sc fm) 454 131 (.aload_n 0) (132) := ri_of (by decide +kernel) rfl
theorem wi_454_132 : ri (rt_P sc fm) 454 132 (.getfield 274) (135) := ri_of (by decide +kernel) rfl
theorem wi_454_135 : ri (rt_P sc fm) 454 135 (.aload_n 0) (136) := ri_of (by decide +kernel) rfl
theorem wi_454_136 : ri (rt_P sc fm) 454 136 (.getfield 194) (139) := ri_of (by decide +kernel) rfl
theorem wi_454_139 : ri (rt_P sc fm) 454 139 (.iload_n 1) (140) := ri_of (by decide +kernel) rfl
theorem wi_454_14 : ri (rt_P sc fm) 454 14 (.iload_n 1) (15) := ri_of (by decide +kernel) rfl
theorem wi_454_140 : ri (rt_P sc fm) 454 140 (.iaload) (141) := ri_of (by decide +kernel) rfl
theorem wi_454_141 : ri (rt_P sc fm) 454 141 (.aload_n 0) (142) := ri_of (by decide +kernel) rfl
theorem wi_454_142 : ri (rt_P sc fm) 454 142 (.getfield 274) (145) := ri_of (by decide +kernel) rfl
theorem wi_454_145 : ri (rt_P sc fm) 454 145 (.iload_n 3) (146) := ri_of (by decide +kernel) rfl
theorem wi_454_146 : ri (rt_P sc fm) 454 146 (.iconst 1) (147) := ri_of (by decide +kernel) rfl
theorem wi_454_147 : ri (rt_P sc fm) 454 147 (.isub) (148) := ri_of (by decide +kernel) rfl
theorem wi_454_148 : ri (rt_P sc fm) 454 148 (.iaload) (149) := ri_of (by decide +kernel) rfl
theorem wi_454_149 : ri (rt_P sc fm) 454 149 (.iastore) (150) := ri_of (by decide +kernel) rfl
theorem wi_454_15 : ri (rt_P sc fm) 454 15 (.iaload) (16) := ri_of (by decide +kernel) rfl
theorem wi_454_150 : ri (rt_P sc fm) 454 150 (.return_) (151) := ri_of (by decide +kernel) rfl
theorem wi_454_151 : ri (rt_P sc fm) 454 151 (.aload_n 0) (152) := ri_of (by decide +kernel) rfl
theorem wi_454_152 : ri (rt_P sc fm) 454 152 (.getfield 274) (155) := ri_of (by decide +kernel) rfl
theorem wi_454_155 : ri (rt_P sc fm) 454 155 (.iload_n 3) (156) := ri_of (by decide +kernel) rfl
theorem wi_454_156 : ri (rt_P sc fm) 454 156 (.aload_n 0) (157) := ri_of (by decide +kernel) rfl
theorem wi_454_157 : ri (rt_P sc fm) 454 157 (.getfield 261) (160) := ri_of (by decide +kernel) rfl
theorem wi_454_16 : ri (rt_P sc fm) 454 16 (.tableswitch 275 14 30 #[84, 84, 97, 115, 135, 275, 162, 275, 205, 205, 205, 235, 275, 275, 275, 275, 250]) (16 + rx_len (.tableswitch 275 14 30 #[84, 84, 97, 115, 135, 275, 162, 275, 205, 205, 205, 235, 275, 275, 275, 275, 250])) := ri_of (by decide +kernel) rfl
theorem wi_454_160 : ri (rt_P sc fm) 454 160 (.aload_n 0) (161) := ri_of (by decide +kernel) rfl
theorem wi_454_161 : ri (rt_P sc fm) 454 161 (.getfield 194) (164) := ri_of (by decide +kernel) rfl
theorem wi_454_164 : ri (rt_P sc fm) 454 164 (.iload_n 1) (165) := ri_of (by decide +kernel) rfl
theorem wi_454_165 : ri (rt_P sc fm) 454 165 (.iaload) (166) := ri_of (by decide +kernel) rfl
theorem wi_454_166 : ri (rt_P sc fm) 454 166 (.aload_n 0) (167) := ri_of (by decide +kernel) rfl
theorem wi_454_167 : ri (rt_P sc fm) 454 167 (.getfield 197) (170) := ri_of (by decide +kernel) rfl
theorem wi_454_170 : ri (rt_P sc fm) 454 170 (.iload_n 1) (171) := ri_of (by decide +kernel) rfl
theorem wi_454_171 : ri (rt_P sc fm) 454 171 (.iaload) (172) := ri_of (by decide +kernel) rfl
theorem wi_454_172 : ri (rt_P sc fm) 454 172 (.invokestatic 838) (175) := ri_of (by decide +kernel) rfl
theorem wi_454_175 : ri (rt_P sc fm) 454 175 (.iaload) (176) := ri_of (by decide +kernel) rfl
theorem wi_454_176 : ri (rt_P sc fm) 454 176 (.iastore) (177) := ri_of (by decide +kernel) rfl
theorem wi_454_177 : ri (rt_P sc fm) 454 177 (.return_) (178) := ri_of (by decide +kernel) rfl
theorem wi_454_178 : ri (rt_P sc fm) 454 178 (.bipush 8) (180) := ri_of (by decide +kernel) rfl
theorem wi_454_180 : ri (rt_P sc fm) 454 180 (.aload_n 0) (181) := ri_of (by decide +kernel) rfl
theorem wi_454_181 : ri (rt_P sc fm) 454 181 (.getfield 194) (184) := ri_of (by decide +kernel) rfl
theorem wi_454_184 : ri (rt_P sc fm) 454 184 (.iload_n 1) (185) := ri_of (by decide +kernel) rfl
theorem wi_454_185 : ri (rt_P sc fm) 454 185 (.iaload) (186) := ri_of (by decide +kernel) rfl
theorem wi_454_186 : ri (rt_P sc fm) 454 186 (.imul) (187) := ri_of (by decide +kernel) rfl
theorem wi_454_187 : ri (rt_P sc fm) 454 187 (.aload_n 0) (188) := ri_of (by decide +kernel) rfl
theorem wi_454_188 : ri (rt_P sc fm) 454 188 (.getfield 197) (191) := ri_of (by decide +kernel) rfl
theorem wi_454_191 : ri (rt_P sc fm) 454 191 (.iload_n 1) (192) := ri_of (by decide +kernel) rfl
theorem wi_454_192 : ri (rt_P sc fm) 454 192 (.iaload) (193) := ri_of (by decide +kernel) rfl
theorem wi_454_193 : ri (rt_P sc fm) 454 193 (.iadd) (194) := ri_of (by decide +kernel) rfl
theorem wi_454_194 : ri (rt_P sc fm) 454 194 (.istore 4) (196) := ri_of (by decide +kernel) rfl
theorem wi_454_196 : ri (rt_P sc fm) 454 196 (.aload_n 0) (197) := ri_of (by decide +kernel) rfl
theorem wi_454_197 : ri (rt_P sc fm) 454 197 (.getfield 274) (200) := ri_of (by decide +kernel) rfl
theorem wi_454_2 : ri (rt_P sc fm) 454 2 (.aload_n 0) (3) := ri_of (by decide +kernel) rfl
theorem wi_454_200 : ri (rt_P sc fm) 454 200 (.iload_n 3) (201) := ri_of (by decide +kernel) rfl
theorem wi_454_201 : ri (rt_P sc fm) 454 201 (.aload_n 0) (202) := ri_of (by decide +kernel) rfl
theorem wi_454_202 : ri (rt_P sc fm) 454 202 (.getfield 173) (205) := ri_of (by decide +kernel) rfl
theorem wi_454_205 : ri (rt_P sc fm) 454 205 (.iload 4) (207) := ri_of (by decide +kernel) rfl
theorem wi_454_207 : ri (rt_P sc fm) 454 207 (.iaload) (208) := ri_of (by decide +kernel) rfl
theorem wi_454_208 : ri (rt_P sc fm) 454 208 (.isub) (209) := ri_of (by decide +kernel) rfl
theorem wi_454_209 : ri (rt_P sc fm) 454 209 (.aload_n 0) (210) := ri_of (by decide +kernel) rfl
theorem wi_454_210 : ri (rt_P sc fm) 454 210 (.getfield 261) (213) := ri_of (by decide +kernel) rfl
theorem wi_454_213 : ri (rt_P sc fm) 454 213 (.iload 4) (215) := ri_of (by decide +kernel) rfl
theorem wi_454_215 : ri (rt_P sc fm) 454 215 (.invokestatic 661) (218) := ri_of (by decide +kernel) rfl
theorem wi_454_218 : ri (rt_P sc fm) 454 218 (.iaload) (219) := ri_of (by decide +kernel) rfl
theorem wi_454_219 : ri (rt_P sc fm) 454 219 (.iastore) (220) := ri_of (by decide +kernel) rfl
theorem wi_454_220 : ri (rt_P sc fm) 454 220 (.return_) (221) := ri_of (by decide +kernel) rfl
theorem wi_454_221 : ri (rt_P sc fm) 454 221 (.aload_n 0) (222) := ri_of (by decide +kernel) rfl
theorem wi_454_222 : ri (rt_P sc fm) 454 222 (.getfield 274) (225) := ri_of (by decide +kernel) rfl
theorem wi_454_225 : ri (rt_P sc fm) 454 225 (.iload_n 3) (226) := ri_of (by decide +kernel) rfl
theorem wi_454_226 : ri (rt_P sc fm) 454 226 (.iconst 2) (227) := ri_of (by decide +kernel) rfl
theorem wi_454_227 : ri (rt_P sc fm) 454 227 (.isub) (228) := ri_of (by decide +kernel) rfl
theorem wi_454_228 : ri (rt_P sc fm) 454 228 (.aload_n 0) (229) := ri_of (by decide +kernel) rfl
theorem wi_454_229 : ri (rt_P sc fm) 454 229 (.iload_n 2) (230) := ri_of (by decide +kernel) rfl
theorem wi_454_230 : ri (rt_P sc fm) 454 230 (.aload_n 0) (231) := ri_of (by decide +kernel) rfl
theorem wi_454_231 : ri (rt_P sc fm) 454 231 (.getfield 274) (234) := ri_of (by decide +kernel) rfl
theorem wi_454_234 : ri (rt_P sc fm) 454 234 (.iload_n 3) (235) := ri_of (by decide +kernel) rfl
theorem wi_454_235 : ri (rt_P sc fm) 454 235 (.iconst 2) (236) := ri_of (by decide +kernel) rfl
theorem wi_454_236 : ri (rt_P sc fm) 454 236 (.isub) (237) := ri_of (by decide +kernel) rfl
theorem wi_454_237 : ri (rt_P sc fm) 454 237 (.iaload) (238) := ri_of (by decide +kernel) rfl
theorem wi_454_238 : ri (rt_P sc fm) 454 238 (.aload_n 0) (239) := ri_of (by decide +kernel) rfl
theorem wi_454_239 : ri (rt_P sc fm) 454 239 (.getfield 274) (242) := ri_of (by decide +kernel) rfl
theorem wi_454_242 : ri (rt_P sc fm) 454 242 (.iload_n 3) (243) := ri_of (by decide +kernel) rfl
theorem wi_454_243 : ri (rt_P sc fm) 454 243 (.iconst 1) (244) := ri_of (by decide +kernel) rfl
theorem wi_454_244 : ri (rt_P sc fm) 454 244 (.isub) (245) := ri_of (by decide +kernel) rfl
theorem wi_454_245 : ri (rt_P sc fm) 454 245 (.iaload) (246) := ri_of (by decide +kernel) rfl
theorem wi_454_246 : ri (rt_P sc fm) 454 246 (.invokevirtual 727) (249) := ri_of (by decide +kernel) rfl
theorem wi_454_249 : ri (rt_P sc fm) 454 249 (.iastore) (250) := ri_of (by decide +kernel) rfl
theorem wi_454_250 : ri (rt_P sc fm) 454 250 (.return_) (251) := ri_of (by decide +kernel) rfl
theorem wi_454_251 : ri (rt_P sc fm) 454 251 (.aload_n 0) (252) := ri_of (by decide +kernel) rfl
theorem wi_454_252 : ri (rt_P sc fm) 454 252 (.getfield 274) (255) := ri_of (by decide +kernel) rfl
theorem wi_454_255 : ri (rt_P sc fm) 454 255 (.iload_n 3) (256) := ri_of (by decide +kernel) rfl
theorem wi_454_256 : ri (rt_P sc fm) 454 256 (.aload_n 0) (257) := ri_of (by decide +kernel) rfl
theorem wi_454_257 : ri (rt_P sc fm) 454 257 (.getfield 274) (260) := ri_of (by decide +kernel) rfl
theorem wi_454_260 : ri (rt_P sc fm) 454 260 (.iload_n 3) (261) := ri_of (by decide +kernel) rfl
theorem wi_454_261 : ri (rt_P sc fm) 454 261 (.iconst 1) (262) := ri_of (by decide +kernel) rfl
theorem wi_454_262 : ri (rt_P sc fm) 454 262 (.isub) (263) := ri_of (by decide +kernel) rfl
theorem wi_454_263 : ri (rt_P sc fm) 454 263 (.iaload) (264) := ri_of (by decide +kernel) rfl
theorem wi_454_264 : ri (rt_P sc fm) 454 264 (.iastore) (265) := ri_of (by decide +kernel) rfl
theorem wi_454_265 : ri (rt_P sc fm) 454 265 (.return_) (266) := ri_of (by decide +kernel) rfl
theorem wi_454_266 : ri (rt_P sc fm) 454 266 (.aload_n 0) (267) := ri_of (by decide +kernel) rfl
theorem wi_454_267 : ri (rt_P sc fm) 454 267 (.getfield 194) (270) := ri_of (by decide +kernel) rfl
theorem wi_454_270 : ri (rt_P sc fm) 454 270 (.iload_n 1) (271) := ri_of (by decide +kernel) rfl
theorem wi_454_271 : ri (rt_P sc fm) 454 271 (.iaload) (272) := ri_of (by decide +kernel) rfl
theorem wi_454_272 : ri (rt_P sc fm) 454 272 (.iload_n 2) (273) := ri_of (by decide +kernel) rfl
theorem wi_454_273 : ri (rt_P sc fm) 454 273 (.if_icmp .ne 17) (276) := ri_of (by decide +kernel) rfl
theorem wi_454_276 : ri (rt_P sc fm) 454 276 (.aload_n 0) (277) := ri_of (by decide +kernel) rfl
theorem wi_454_277 : ri (rt_P sc fm) 454 277 (.getfield 274) (280) := ri_of (by decide +kernel) rfl
theorem wi_454_280 : ri (rt_P sc fm) 454 280 (.iload_n 3) (281) := ri_of (by decide +kernel) rfl
theorem wi_454_281 : ri (rt_P sc fm) 454 281 (.iconst 1) (282) := ri_of (by decide +kernel) rfl
theorem wi_454_282 : ri (rt_P sc fm) 454 282 (.isub) (283) := ri_of (by decide +kernel) rfl
theorem wi_454_283 : ri (rt_P sc fm) 454 283 (.aload_n 0) (284) := ri_of (by decide +kernel) rfl
theorem wi_454_284 : ri (rt_P sc fm) 454 284 (.getfield 197) (287) := ri_of (by decide +kernel) rfl
theorem wi_454_287 : ri (rt_P sc fm) 454 287 (.iload_n 1) (288) := ri_of (by decide +kernel) rfl
theorem wi_454_288 : ri (rt_P sc fm) 454 288 (.iaload) (289) := ri_of (by decide +kernel) rfl
theorem wi_454_289 : ri (rt_P sc fm) 454 289 (.iastore) (290) := ri_of (by decide +kernel) rfl
theorem wi_454_290 : ri (rt_P sc fm) 454 290 (.return_) (291) := ri_of (by decide +kernel) rfl
theorem wi_454_291 : ri (rt_P sc fm) 454 291 (.return_) (292) := ri_of (by decide +kernel) rfl
theorem wi_454_3 : ri (rt_P sc fm) 454 3 (.getfield 243) (6) := ri_of (by decide +kernel) rfl
theorem wi_454_6 : ri (rt_P sc fm) 454 6 (.iload_n 1) (7) := ri_of (by decide +kernel) rfl
theorem wi_454_7 : ri (rt_P sc fm) 454 7 (.iaload) (8) := ri_of (by decide +kernel) rfl
theorem wi_454_8 : ri (rt_P sc fm) 454 8 (.iadd) (9) := ri_of (by decide +kernel) rfl
theorem wi_454_9 : ri (rt_P sc fm) 454 9 (.istore_n 3) (10) := ri_of (by decide +kernel) rfl
theorem wm_451 : rx_ml (rt_P sc fm) 451 = 2 := (by decide +kernel : rt_ml 451 = 2)
theorem wm_453 : rx_ml (rt_P sc fm) 453 = 5 := (by decide +kernel : rt_ml 453 = 5)
theorem wr_454 : rx_rt (rt_P sc fm) 454 = none := (by decide +kernel : rt_rt 454 = none)
/-- MarkHouseModel.does(II)V -/
def d_454 (n : Nat) (a1 : Int32) (a2 : Int32) (c : cS) : Option (cS) :=
  if ib a1 3840 then
  lt ((8 + (c.1 230 (ix a1))) : Int32) (fun v3 =>
  if ib a1 3840 then
  jn (fun p6 : Unit =>
    Option.bind (d_453 n a1 a2 c) (fun v7 =>
    if ib v3 16 then
    lt (pI c 240 (ix v3) v7) (fun c9 =>
    some c9)
    else none))
  (fun j100 =>
  jn (fun p11 : Unit =>
    some c)
  (fun j291 =>
  jn (fun p12 : Unit =>
    if ib (v3 - 2) 16 then
    if ib (v3 - 1) 16 then
    Option.bind (d_390 n a2 (c.1 240 (ix (v3 - 2))) (c.1 240 (ix (v3 - 1))) c) (fun v15 =>
    if ib (v3 - 2) 16 then
    lt (pI c 240 (ix (v3 - 2)) v15) (fun c17 =>
    some c17)
    else none)
    else none
    else none)
  (fun j221 =>
  if (c.1 211 (ix a1)) = 14 then
    j100 ()
  else
  if (c.1 211 (ix a1)) = 15 then
    j100 ()
  else
  if (c.1 211 (ix a1)) = 16 then
    if ib a1 3840 then
    if ib (c.1 214 (ix a1)) 16 then
    if ib v3 16 then
    lt (pI c 240 (ix v3) (c.1 240 (ix (c.1 214 (ix a1))))) (fun c25 =>
    some c25)
    else none
    else none
    else none
  else
  if (c.1 211 (ix a1)) = 17 then
    if ib a1 3840 then
    if ib (v3 - 1) 16 then
    if ib (c.1 214 (ix a1)) 16 then
    lt (pI c 240 (ix (c.1 214 (ix a1))) (c.1 240 (ix (v3 - 1)))) (fun c31 =>
    some c31)
    else none
    else none
    else none
  else
  if (c.1 211 (ix a1)) = 18 then
    if ib a1 3840 then
    if ib a1 3840 then
    Option.bind (d_451 n (c.1 214 (ix a1)) (c.1 215 (ix a1))) (fun v36 =>
    if ib v36 1200 then
    if ib v3 16 then
    lt (pI c 240 (ix v3) (c.1 236 (ix v36))) (fun c39 =>
    some c39)
    else none
    else none)
    else none
    else none
  else
  if (c.1 211 (ix a1)) = 19 then
    j291 ()
  else
  if (c.1 211 (ix a1)) = 20 then
    if ib a1 3840 then
    if ib a1 3840 then
    lt (((8 * (c.1 214 (ix a1))) + (c.1 215 (ix a1))) : Int32) (fun v46 =>
    if ib v46 96 then
    Option.bind (d_422 n v46) (fun v49 =>
    if ib v49 1200 then
    if ib (v3 - (c.1 207 (ix v46))) 16 then
    lt (pI c 240 (ix (v3 - (c.1 207 (ix v46)))) (c.1 236 (ix v49))) (fun c52 =>
    some c52)
    else none
    else none)
    else none)
    else none
    else none
  else
  if (c.1 211 (ix a1)) = 21 then
    j291 ()
  else
  if (c.1 211 (ix a1)) = 22 then
    j221 ()
  else
  if (c.1 211 (ix a1)) = 23 then
    j221 ()
  else
  if (c.1 211 (ix a1)) = 24 then
    j221 ()
  else
  if (c.1 211 (ix a1)) = 25 then
    if ib (v3 - 1) 16 then
    if ib v3 16 then
    lt (pI c 240 (ix v3) (c.1 240 (ix (v3 - 1)))) (fun c61 =>
    some c61)
    else none
    else none
  else
  if (c.1 211 (ix a1)) = 26 then
    j291 ()
  else
  if (c.1 211 (ix a1)) = 27 then
    j291 ()
  else
  if (c.1 211 (ix a1)) = 28 then
    j291 ()
  else
  if (c.1 211 (ix a1)) = 29 then
    j291 ()
  else
  if (c.1 211 (ix a1)) = 30 then
    if ib a1 3840 then
    jn (fun p69 : cS =>
      some p69)
    (fun j290 =>
    if (c.1 214 (ix a1)) = a2 then
      if ib a1 3840 then
      if ib (v3 - 1) 16 then
      lt (pI c 240 (ix (v3 - 1)) (c.1 215 (ix a1))) (fun c72 =>
      j290 c72)
      else none
      else none
    else
      j290 c)
    else none
  else
  j291 ())))
  else none)
  else none
theorem sp_454 {F Lo n : Nat} {a1 : Int32} {a2 : Int32} {c y : cS} {w : cW} {K : cS → Prop} {Q : ((Option Value) ⊕ String) → List va_E → Prop} (hw : rOK fm w) (hF : 2 ≤ F) (hLo : 46 ≤ Lo)  (h : wp (d_454 n a1 a2 c) K) (hQ : ∀ r, K r → Q (.inl none) (hq false r y w)) : rs (rt_P sc fm) 454 F Lo 0 [(0, .ref 174), (1, .int a1), (2, .int a2)] [] (hq false c y w) Q := by
  unfold d_454 at h
  obtain ⟨lv, elv⟩ : ∃ lv : rx_L, lv = [(0, .ref 174), (1, .int a1), (2, .int a2)] := ⟨_, rfl⟩
  rw [← elv]
  have l0 : rx_ld lv 0 = some (.ref 174) := by rw [elv]; rfl
  have l1 : rx_ld lv 1 = some (.int a1) := by rw [elv]; rfl
  have l2 : rx_ld lv 2 = some (.int a2) := by rw [elv]; rfl
  refine rs_pure wi_454_0 rfl ?_
  refine rs_topi (v := 8) (by decide) ?_
  refine rs_aldn wi_454_2 l0 ?_
  refine dq_gr wi_454_3 wf_454_243 tf_174_70 ?_
  refine rs_ildn wi_454_6 l1 ?_
  obtain ⟨g1, h⟩ := wp_gd h
  refine dq_iald wi_454_7 t_230 g1 ?_
  refine rs_pure wi_454_8 rfl ?_
  obtain ⟨v3, e4, h⟩ := wp_lt h
  refine rs_topi e4 ?_
  refine dl_istn wi_454_9 rfl (fun lv l3 t2 => ?_)
  have l0 := t2 _ _ (by decide) (Or.inl rfl) l0
  have l1 := t2 _ _ (by decide) (Or.inl rfl) l1
  have l2 := t2 _ _ (by decide) (Or.inl rfl) l2
  refine rs_aldn wi_454_10 l0 ?_
  refine dq_gr wi_454_11 wf_454_185 tf_174_49 ?_
  refine rs_ildn wi_454_14 l1 ?_
  obtain ⟨g5, h⟩ := wp_gd h
  refine dq_iald wi_454_15 t_211 g5 ?_
  refine wp_jn (B := fun p6 : Unit => ∀ lv, rx_ld lv 0 = some (.ref 174) → rx_ld lv 1 = some (.int a1) → rx_ld lv 2 = some (.int a2) → rx_ld lv 3 = some (.int v3) → rs (rt_P sc fm) 454 F Lo 100 lv [] (hq false c y w) Q) h (fun p6 h lv l0 l1 l2 l3 => ?_) (fun j100 hj100 h => ?_)
  ·
    refine rs_aldn wi_454_100 l0 ?_
    refine dq_gr wi_454_101 wf_454_274 tf_174_89 ?_
    refine rs_ildn wi_454_104 l3 ?_
    refine rs_aldn wi_454_105 l0 ?_
    refine rs_ildn wi_454_106 l1 ?_
    refine rs_ildn wi_454_107 l2 ?_
    refine rs_V wi_454_108 wc_454_835 rfl (dq_isa tf_174_0 wa_15_453) (Nat.le_trans (by decide) hF) (ml_le wm_453 (Nat.le_trans (by decide) hLo)) rfl (sp_453 hw (Nat.le_trans (by decide : 0 ≤ 2 - 1) (Nat.sub_le_sub_right hF 1)) (ml_sub wm_453 (Nat.le_trans (by decide : 0 ≤ 46 - 24) (Nat.sub_le_sub_right hLo 24))) (wp_bind h) (fun v7 h => rs_back1 ?_))
    obtain ⟨g8, h⟩ := wp_gd h
    obtain ⟨c9, e10, h⟩ := wp_lt h
    refine dq_iast wi_454_111 t_240 g8 e10 ?_
    exact rs_vret wi_454_112 wr_454 (hQ c9 h)
  refine wp_jn (B := fun p11 : Unit => ∀ lv, rs (rt_P sc fm) 454 F Lo 291 lv [] (hq false c y w) Q) h (fun p11 h lv => ?_) (fun j291 hj291 h => ?_)
  ·
    exact rs_vret wi_454_291 wr_454 (hQ c h)
  refine wp_jn (B := fun p12 : Unit => ∀ lv, rx_ld lv 0 = some (.ref 174) → rx_ld lv 2 = some (.int a2) → rx_ld lv 3 = some (.int v3) → rs (rt_P sc fm) 454 F Lo 221 lv [] (hq false c y w) Q) h (fun p12 h lv l0 l2 l3 => ?_) (fun j221 hj221 h => ?_)
  ·
    refine rs_aldn wi_454_221 l0 ?_
    refine dq_gr wi_454_222 wf_454_274 tf_174_89 ?_
    refine rs_ildn wi_454_225 l3 ?_
    refine rs_pure wi_454_226 rfl ?_
    refine rs_topi (v := 2) (by decide) ?_
    refine rs_pure wi_454_227 rfl ?_
    refine rs_aldn wi_454_228 l0 ?_
    refine rs_ildn wi_454_229 l2 ?_
    refine rs_aldn wi_454_230 l0 ?_
    refine dq_gr wi_454_231 wf_454_274 tf_174_89 ?_
    refine rs_ildn wi_454_234 l3 ?_
    refine rs_pure wi_454_235 rfl ?_
    refine rs_topi (v := 2) (by decide) ?_
    refine rs_pure wi_454_236 rfl ?_
    obtain ⟨g13, h⟩ := wp_gd h
    refine dq_iald wi_454_237 t_240 g13 ?_
    refine rs_aldn wi_454_238 l0 ?_
    refine dq_gr wi_454_239 wf_454_274 tf_174_89 ?_
    refine rs_ildn wi_454_242 l3 ?_
    refine rs_pure wi_454_243 rfl ?_
    refine rs_topi (v := 1) (by decide) ?_
    refine rs_pure wi_454_244 rfl ?_
    obtain ⟨g14, h⟩ := wp_gd h
    refine dq_iald wi_454_245 t_240 g14 ?_
    refine rs_V wi_454_246 wc_454_727 rfl (dq_isa tf_174_0 wa_15_390) (Nat.le_trans (by decide) hF) (ml_le wm_390 (Nat.le_trans (by decide) hLo)) rfl (sp_390 hw (Nat.le_trans (by decide : 1 ≤ 2 - 1) (Nat.sub_le_sub_right hF 1)) (ml_sub wm_390 (Nat.le_trans (by decide : 23 ≤ 46 - 23) (Nat.sub_le_sub_right hLo 23))) (wp_bind h) (fun v15 h => rs_back1 ?_))
    obtain ⟨g16, h⟩ := wp_gd h
    obtain ⟨c17, e18, h⟩ := wp_lt h
    refine dq_iast wi_454_249 t_240 g16 e18 ?_
    exact rs_vret wi_454_250 wr_454 (hQ c17 h)
  by_cases q19 : (c.1 211 (ix a1)) = 14
  ·
    have h := wp_pos h q19
    refine rs_tsk (tg := 100) (off := 84) (v := 14) wi_454_16 q19 (by decide) (by decide) ⟨by decide, by decide⟩ ?_
    exact hj100 _ h _ l0 l1 l2 l3
  have h := wp_neg h q19
  by_cases q20 : (c.1 211 (ix a1)) = 15
  ·
    have h := wp_pos h q20
    refine rs_tsk (tg := 100) (off := 84) (v := 15) wi_454_16 q20 (by decide) (by decide) ⟨by decide, by decide⟩ ?_
    exact hj100 _ h _ l0 l1 l2 l3
  have h := wp_neg h q20
  by_cases q21 : (c.1 211 (ix a1)) = 16
  ·
    have h := wp_pos h q21
    refine rs_tsk (tg := 113) (off := 97) (v := 16) wi_454_16 q21 (by decide) (by decide) ⟨by decide, by decide⟩ ?_
    refine rs_aldn wi_454_113 l0 ?_
    refine dq_gr wi_454_114 wf_454_274 tf_174_89 ?_
    refine rs_ildn wi_454_117 l3 ?_
    refine rs_aldn wi_454_118 l0 ?_
    refine dq_gr wi_454_119 wf_454_274 tf_174_89 ?_
    refine rs_aldn wi_454_122 l0 ?_
    refine dq_gr wi_454_123 wf_454_194 tf_174_52 ?_
    refine rs_ildn wi_454_126 l1 ?_
    obtain ⟨g22, h⟩ := wp_gd h
    refine dq_iald wi_454_127 t_214 g22 ?_
    obtain ⟨g23, h⟩ := wp_gd h
    refine dq_iald wi_454_128 t_240 g23 ?_
    obtain ⟨g24, h⟩ := wp_gd h
    obtain ⟨c25, e26, h⟩ := wp_lt h
    refine dq_iast wi_454_129 t_240 g24 e26 ?_
    exact rs_vret wi_454_130 wr_454 (hQ c25 h)
  have h := wp_neg h q21
  by_cases q27 : (c.1 211 (ix a1)) = 17
  ·
    have h := wp_pos h q27
    refine rs_tsk (tg := 131) (off := 115) (v := 17) wi_454_16 q27 (by decide) (by decide) ⟨by decide, by decide⟩ ?_
    refine rs_aldn wi_454_131 l0 ?_
    refine dq_gr wi_454_132 wf_454_274 tf_174_89 ?_
    refine rs_aldn wi_454_135 l0 ?_
    refine dq_gr wi_454_136 wf_454_194 tf_174_52 ?_
    refine rs_ildn wi_454_139 l1 ?_
    obtain ⟨g28, h⟩ := wp_gd h
    refine dq_iald wi_454_140 t_214 g28 ?_
    refine rs_aldn wi_454_141 l0 ?_
    refine dq_gr wi_454_142 wf_454_274 tf_174_89 ?_
    refine rs_ildn wi_454_145 l3 ?_
    refine rs_pure wi_454_146 rfl ?_
    refine rs_topi (v := 1) (by decide) ?_
    refine rs_pure wi_454_147 rfl ?_
    obtain ⟨g29, h⟩ := wp_gd h
    refine dq_iald wi_454_148 t_240 g29 ?_
    obtain ⟨g30, h⟩ := wp_gd h
    obtain ⟨c31, e32, h⟩ := wp_lt h
    refine dq_iast wi_454_149 t_240 g30 e32 ?_
    exact rs_vret wi_454_150 wr_454 (hQ c31 h)
  have h := wp_neg h q27
  by_cases q33 : (c.1 211 (ix a1)) = 18
  ·
    have h := wp_pos h q33
    refine rs_tsk (tg := 151) (off := 135) (v := 18) wi_454_16 q33 (by decide) (by decide) ⟨by decide, by decide⟩ ?_
    refine rs_aldn wi_454_151 l0 ?_
    refine dq_gr wi_454_152 wf_454_274 tf_174_89 ?_
    refine rs_ildn wi_454_155 l3 ?_
    refine rs_aldn wi_454_156 l0 ?_
    refine dq_gr wi_454_157 wf_454_261 tf_174_85 ?_
    refine rs_aldn wi_454_160 l0 ?_
    refine dq_gr wi_454_161 wf_454_194 tf_174_52 ?_
    refine rs_ildn wi_454_164 l1 ?_
    obtain ⟨g34, h⟩ := wp_gd h
    refine dq_iald wi_454_165 t_214 g34 ?_
    refine rs_aldn wi_454_166 l0 ?_
    refine dq_gr wi_454_167 wf_454_197 tf_174_53 ?_
    refine rs_ildn wi_454_170 l1 ?_
    obtain ⟨g35, h⟩ := wp_gd h
    refine dq_iald wi_454_171 t_215 g35 ?_
    refine rs_S wi_454_172 wc_454_838 (Or.inl rfl) rfl (Nat.le_trans (by decide) hF) (ml_le wm_451 (Nat.le_trans (by decide) hLo)) rfl (sp_451 (Nat.le_trans (by decide : 0 ≤ 2 - 1) (Nat.sub_le_sub_right hF 1)) (ml_sub wm_451 (Nat.le_trans (by decide : 0 ≤ 46 - 21) (Nat.sub_le_sub_right hLo 21))) (wp_bind h) (fun v36 h => rs_back1 ?_))
    obtain ⟨g37, h⟩ := wp_gd h
    refine dq_iald wi_454_175 t_236 g37 ?_
    obtain ⟨g38, h⟩ := wp_gd h
    obtain ⟨c39, e40, h⟩ := wp_lt h
    refine dq_iast wi_454_176 t_240 g38 e40 ?_
    exact rs_vret wi_454_177 wr_454 (hQ c39 h)
  have h := wp_neg h q33
  by_cases q41 : (c.1 211 (ix a1)) = 19
  ·
    have h := wp_pos h q41
    refine rs_tsk (tg := 291) (off := 275) (v := 19) wi_454_16 q41 (by decide) (by decide) ⟨by decide, by decide⟩ ?_
    exact hj291 _ h _
  have h := wp_neg h q41
  by_cases q42 : (c.1 211 (ix a1)) = 20
  ·
    have h := wp_pos h q42
    refine rs_tsk (tg := 178) (off := 162) (v := 20) wi_454_16 q42 (by decide) (by decide) ⟨by decide, by decide⟩ ?_
    refine rs_pure wi_454_178 rfl ?_
    refine rs_topi (v := 8) (by decide) ?_
    refine rs_aldn wi_454_180 l0 ?_
    refine dq_gr wi_454_181 wf_454_194 tf_174_52 ?_
    refine rs_ildn wi_454_184 l1 ?_
    obtain ⟨g43, h⟩ := wp_gd h
    refine dq_iald wi_454_185 t_214 g43 ?_
    refine rs_pure wi_454_186 rfl ?_
    refine rs_aldn wi_454_187 l0 ?_
    refine dq_gr wi_454_188 wf_454_197 tf_174_53 ?_
    refine rs_ildn wi_454_191 l1 ?_
    obtain ⟨g44, h⟩ := wp_gd h
    refine dq_iald wi_454_192 t_215 g44 ?_
    refine rs_pure wi_454_193 rfl ?_
    obtain ⟨v46, e47, h⟩ := wp_lt h
    refine rs_topi e47 ?_
    refine dl_ist wi_454_194 rfl (fun lv l4 t45 => ?_)
    have l0 := t45 _ _ (by decide) (Or.inl rfl) l0
    have l3 := t45 _ _ (by decide) (Or.inl rfl) l3
    refine rs_aldn wi_454_196 l0 ?_
    refine dq_gr wi_454_197 wf_454_274 tf_174_89 ?_
    refine rs_ildn wi_454_200 l3 ?_
    refine rs_aldn wi_454_201 l0 ?_
    refine dq_gr wi_454_202 wf_454_173 tf_174_45 ?_
    refine rs_ild wi_454_205 l4 ?_
    obtain ⟨g48, h⟩ := wp_gd h
    refine dq_iald wi_454_207 t_207 g48 ?_
    refine rs_pure wi_454_208 rfl ?_
    refine rs_aldn wi_454_209 l0 ?_
    refine dq_gr wi_454_210 wf_454_261 tf_174_85 ?_
    refine rs_ild wi_454_213 l4 ?_
    refine rs_S wi_454_215 wc_454_661 (Or.inl rfl) rfl (Nat.le_trans (by decide) hF) (ml_le wm_422 (Nat.le_trans (by decide) hLo)) rfl (sp_422 (Nat.le_trans (by decide : 0 ≤ 2 - 1) (Nat.sub_le_sub_right hF 1)) (ml_sub wm_422 (Nat.le_trans (by decide : 0 ≤ 46 - 20) (Nat.sub_le_sub_right hLo 20))) (wp_bind h) (fun v49 h => rs_back1 ?_))
    obtain ⟨g50, h⟩ := wp_gd h
    refine dq_iald wi_454_218 t_236 g50 ?_
    obtain ⟨g51, h⟩ := wp_gd h
    obtain ⟨c52, e53, h⟩ := wp_lt h
    refine dq_iast wi_454_219 t_240 g51 e53 ?_
    exact rs_vret wi_454_220 wr_454 (hQ c52 h)
  have h := wp_neg h q42
  by_cases q54 : (c.1 211 (ix a1)) = 21
  ·
    have h := wp_pos h q54
    refine rs_tsk (tg := 291) (off := 275) (v := 21) wi_454_16 q54 (by decide) (by decide) ⟨by decide, by decide⟩ ?_
    exact hj291 _ h _
  have h := wp_neg h q54
  by_cases q55 : (c.1 211 (ix a1)) = 22
  ·
    have h := wp_pos h q55
    refine rs_tsk (tg := 221) (off := 205) (v := 22) wi_454_16 q55 (by decide) (by decide) ⟨by decide, by decide⟩ ?_
    exact hj221 _ h _ l0 l2 l3
  have h := wp_neg h q55
  by_cases q56 : (c.1 211 (ix a1)) = 23
  ·
    have h := wp_pos h q56
    refine rs_tsk (tg := 221) (off := 205) (v := 23) wi_454_16 q56 (by decide) (by decide) ⟨by decide, by decide⟩ ?_
    exact hj221 _ h _ l0 l2 l3
  have h := wp_neg h q56
  by_cases q57 : (c.1 211 (ix a1)) = 24
  ·
    have h := wp_pos h q57
    refine rs_tsk (tg := 221) (off := 205) (v := 24) wi_454_16 q57 (by decide) (by decide) ⟨by decide, by decide⟩ ?_
    exact hj221 _ h _ l0 l2 l3
  have h := wp_neg h q57
  by_cases q58 : (c.1 211 (ix a1)) = 25
  ·
    have h := wp_pos h q58
    refine rs_tsk (tg := 251) (off := 235) (v := 25) wi_454_16 q58 (by decide) (by decide) ⟨by decide, by decide⟩ ?_
    refine rs_aldn wi_454_251 l0 ?_
    refine dq_gr wi_454_252 wf_454_274 tf_174_89 ?_
    refine rs_ildn wi_454_255 l3 ?_
    refine rs_aldn wi_454_256 l0 ?_
    refine dq_gr wi_454_257 wf_454_274 tf_174_89 ?_
    refine rs_ildn wi_454_260 l3 ?_
    refine rs_pure wi_454_261 rfl ?_
    refine rs_topi (v := 1) (by decide) ?_
    refine rs_pure wi_454_262 rfl ?_
    obtain ⟨g59, h⟩ := wp_gd h
    refine dq_iald wi_454_263 t_240 g59 ?_
    obtain ⟨g60, h⟩ := wp_gd h
    obtain ⟨c61, e62, h⟩ := wp_lt h
    refine dq_iast wi_454_264 t_240 g60 e62 ?_
    exact rs_vret wi_454_265 wr_454 (hQ c61 h)
  have h := wp_neg h q58
  by_cases q63 : (c.1 211 (ix a1)) = 26
  ·
    have h := wp_pos h q63
    refine rs_tsk (tg := 291) (off := 275) (v := 26) wi_454_16 q63 (by decide) (by decide) ⟨by decide, by decide⟩ ?_
    exact hj291 _ h _
  have h := wp_neg h q63
  by_cases q64 : (c.1 211 (ix a1)) = 27
  ·
    have h := wp_pos h q64
    refine rs_tsk (tg := 291) (off := 275) (v := 27) wi_454_16 q64 (by decide) (by decide) ⟨by decide, by decide⟩ ?_
    exact hj291 _ h _
  have h := wp_neg h q64
  by_cases q65 : (c.1 211 (ix a1)) = 28
  ·
    have h := wp_pos h q65
    refine rs_tsk (tg := 291) (off := 275) (v := 28) wi_454_16 q65 (by decide) (by decide) ⟨by decide, by decide⟩ ?_
    exact hj291 _ h _
  have h := wp_neg h q65
  by_cases q66 : (c.1 211 (ix a1)) = 29
  ·
    have h := wp_pos h q66
    refine rs_tsk (tg := 291) (off := 275) (v := 29) wi_454_16 q66 (by decide) (by decide) ⟨by decide, by decide⟩ ?_
    exact hj291 _ h _
  have h := wp_neg h q66
  by_cases q67 : (c.1 211 (ix a1)) = 30
  ·
    have h := wp_pos h q67
    refine rs_tsk (tg := 266) (off := 250) (v := 30) wi_454_16 q67 (by decide) (by decide) ⟨by decide, by decide⟩ ?_
    refine rs_aldn wi_454_266 l0 ?_
    refine dq_gr wi_454_267 wf_454_194 tf_174_52 ?_
    refine rs_ildn wi_454_270 l1 ?_
    obtain ⟨g68, h⟩ := wp_gd h
    refine dq_iald wi_454_271 t_214 g68 ?_
    refine rs_ildn wi_454_272 l2 ?_
    refine wp_jn (B := fun p69 : cS => ∀ lv, rs (rt_P sc fm) 454 F Lo 290 lv [] (hq false p69 y w) Q) h (fun p69 h lv => ?_) (fun j290 hj290 h => ?_)
    ·
      exact rs_vret wi_454_290 wr_454 (hQ p69 h)
    refine rs_icne (tg := 290) wi_454_273 ⟨by decide, by decide⟩ (fun q => ?_) (fun q => ?_)
    ·
      have h := wp_neg h q
      exact hj290 _ h _
    ·
      have h := wp_pos h q
      refine rs_aldn wi_454_276 l0 ?_
      refine dq_gr wi_454_277 wf_454_274 tf_174_89 ?_
      refine rs_ildn wi_454_280 l3 ?_
      refine rs_pure wi_454_281 rfl ?_
      refine rs_topi (v := 1) (by decide) ?_
      refine rs_pure wi_454_282 rfl ?_
      refine rs_aldn wi_454_283 l0 ?_
      refine dq_gr wi_454_284 wf_454_197 tf_174_53 ?_
      refine rs_ildn wi_454_287 l1 ?_
      obtain ⟨g70, h⟩ := wp_gd h
      refine dq_iald wi_454_288 t_215 g70 ?_
      obtain ⟨g71, h⟩ := wp_gd h
      obtain ⟨c72, e73, h⟩ := wp_lt h
      refine dq_iast wi_454_289 t_240 g71 e73 ?_
      exact hj290 _ h _
  have h := wp_neg h q67
  refine rs_tsd (tg := 291) wi_454_16 (rz_sw fun k k1 k2 => by
    have kk : k = 14 ∨ k = 15 ∨ k = 16 ∨ k = 17 ∨ k = 18 ∨ k = 19 ∨ k = 20 ∨ k = 21 ∨ k = 22 ∨ k = 23 ∨ k = 24 ∨ k = 25 ∨ k = 26 ∨ k = 27 ∨ k = 28 ∨ k = 29 ∨ k = 30 := by omega
    rcases kk with rfl | rfl | rfl | rfl | rfl | rfl | rfl | rfl | rfl | rfl | rfl | rfl | rfl | rfl | rfl | rfl | rfl
    · exact q19
    · exact q20
    · exact q21
    · exact q27
    · exact q33
    · exact q41
    · exact q42
    · exact q54
    · exact q55
    · exact q56
    · exact q57
    · exact q58
    · exact q63
    · exact q64
    · exact q65
    · exact q66
    · exact q67
    ) ⟨by decide, by decide⟩ ?_
  exact hj291 _ h _
theorem wa_15_452 : rz_cn 15 (rx_yn (rt_P sc fm) 452).cls = true := (by decide +kernel : rz_cn 15 (rt_yn 452).cls = true)
theorem wa_15_454 : rz_cn 15 (rx_yn (rt_P sc fm) 454).cls = true := (by decide +kernel : rz_cn 15 (rt_yn 454).cls = true)
theorem wa_15_455 : rz_cn 15 (rx_yn (rt_P sc fm) 455).cls = true := (by decide +kernel : rz_cn 15 (rt_yn 455).cls = true)
theorem wc_456_730 : rx_ct (rt_P sc fm) 456 730 = some (0, 391, 3) := (by decide +kernel : rt_ct 456 730 = some (0, 391, 3))
theorem wc_456_844 : rx_ct (rt_P sc fm) 456 844 = some (0, 452, 2) := (by decide +kernel : rt_ct 456 844 = some (0, 452, 2))
theorem wc_456_847 : rx_ct (rt_P sc fm) 456 847 = some (0, 455, 2) := (by decide +kernel : rt_ct 456 847 = some (0, 455, 2))
theorem wc_456_850 : rx_ct (rt_P sc fm) 456 850 = some (0, 454, 2) := (by decide +kernel : rt_ct 456 850 = some (0, 454, 2))
theorem wf_456_182 : rx_ft (rt_P sc fm) 456 182 = some (15, 48) := (by decide +kernel : rt_ft 456 182 = some (15, 48))
theorem wf_456_185 : rx_ft (rt_P sc fm) 456 185 = some (15, 49) := (by decide +kernel : rt_ft 456 185 = some (15, 49))
theorem wf_456_194 : rx_ft (rt_P sc fm) 456 194 = some (15, 52) := (by decide +kernel : rt_ft 456 194 = some (15, 52))
theorem wf_456_197 : rx_ft (rt_P sc fm) 456 197 = some (15, 53) := (by decide +kernel : rt_ft 456 197 = some (15, 53))
theorem wf_456_200 : rx_ft (rt_P sc fm) 456 200 = some (15, 54) := (by decide +kernel : rt_ft 456 200 = some (15, 54))
theorem wf_456_243 : rx_ft (rt_P sc fm) 456 243 = some (15, 70) := (by decide +kernel : rt_ft 456 243 = some (15, 70))
theorem wf_456_268 : rx_ft (rt_P sc fm) 456 268 = some (15, 87) := (by decide +kernel : rt_ft 456 268 = some (15, 87))
theorem wf_456_271 : rx_ft (rt_P sc fm) 456 271 = some (15, 88) := (by decide +kernel : rt_ft 456 271 = some (15, 88))
theorem wf_456_274 : rx_ft (rt_P sc fm) 456 274 = some (15, 89) := (by decide +kernel : rt_ft 456 274 = some (15, 89))
theorem wf_456_841 : rx_ft (rt_P sc fm) 456 841 = some (15, 90) := (by decide +kernel : rt_ft 456 841 = some (15, 90))
theorem wi_456_0 : ri (rt_P sc fm) 456 0 (.bipush 40) (2) := ri_of (by decide +kernel) rfl
theorem wi_456_10 : ri (rt_P sc fm) 456 10 (.aload_n 0) (11) := ri_of (by decide +kernel) rfl
theorem wi_456_100 : ri (rt_P sc fm) 456 100 (.if_icmp .ge 29) (103) := ri_of (by decide +kernel) rfl
theorem wi_456_103 : ri (rt_P sc fm) 456 103 (.aload_n 0) (104) := ri_of (by decide +kernel) rfl
theorem wi_456_104 : ri (rt_P sc fm) 456 104 (.getfield 274) (107) := ri_of (by decide +kernel) rfl
theorem wi_456_107 : ri (rt_P sc fm) 456 107 (.iload 5) (109) := ri_of (by decide +kernel) rfl
theorem wi_456_109 : ri (rt_P sc fm) 456 109 (.aload_n 0) (110) := ri_of (by decide +kernel) rfl
theorem wi_456_11 : ri (rt_P sc fm) 456 11 (.getfield 182) (14) := ri_of (by decide +kernel) rfl
theorem wi_456_110 : ri (rt_P sc fm) 456 110 (.getfield 268) (113) := ri_of (by decide +kernel) rfl
theorem wi_456_113 : ri (rt_P sc fm) 456 113 (.bipush 16) (115) := ri_of (by decide +kernel) rfl
theorem wi_456_115 : ri (rt_P sc fm) 456 115 (.iload 4) (117) := ri_of (by decide +kernel) rfl
theorem wi_456_117 : ri (rt_P sc fm) 456 117 (.imul) (118) := ri_of (by decide +kernel) rfl
theorem wi_456_118 : ri (rt_P sc fm) 456 118 (.iload 5) (120) := ri_of (by decide +kernel) rfl
theorem wi_456_120 : ri (rt_P sc fm) 456 120 (.iadd) (121) := ri_of (by decide +kernel) rfl
theorem wi_456_121 : ri (rt_P sc fm) 456 121 (.iaload) (122) := ri_of (by decide +kernel) rfl
theorem wi_456_122 : ri (rt_P sc fm) 456 122 (.iastore) (123) := ri_of (by decide +kernel) rfl
theorem wi_456_123 : ri (rt_P sc fm) 456 123 (.iinc 5 1) (126) := ri_of (by decide +kernel) rfl
theorem wi_456_126 : ri (rt_P sc fm) 456 126 (.goto (-30)) (129) := ri_of (by decide +kernel) rfl
theorem wi_456_129 : ri (rt_P sc fm) 456 129 (.aload_n 0) (130) := ri_of (by decide +kernel) rfl
theorem wi_456_130 : ri (rt_P sc fm) 456 130 (.iload 4) (132) := ri_of (by decide +kernel) rfl
theorem wi_456_132 : ri (rt_P sc fm) 456 132 (.iload_n 2) (133) := ri_of (by decide +kernel) rfl
theorem wi_456_133 : ri (rt_P sc fm) 456 133 (.invokevirtual 850) (136) := ri_of (by decide +kernel) rfl
theorem wi_456_136 : ri (rt_P sc fm) 456 136 (.aload_n 0) (137) := ri_of (by decide +kernel) rfl
theorem wi_456_137 : ri (rt_P sc fm) 456 137 (.getfield 185) (140) := ri_of (by decide +kernel) rfl
theorem wi_456_14 : ri (rt_P sc fm) 456 14 (.iload_n 1) (15) := ri_of (by decide +kernel) rfl
theorem wi_456_140 : ri (rt_P sc fm) 456 140 (.iload 4) (142) := ri_of (by decide +kernel) rfl
theorem wi_456_142 : ri (rt_P sc fm) 456 142 (.iaload) (143) := ri_of (by decide +kernel) rfl
theorem wi_456_143 : ri (rt_P sc fm) 456 143 (.bipush 21) (145) := ri_of (by decide +kernel) rfl
theorem wi_456_145 : ri (rt_P sc fm) 456 145 (.if_icmp .eq 24) (148) := ri_of (by decide +kernel) rfl
theorem wi_456_148 : ri (rt_P sc fm) 456 148 (.aload_n 0) (149) := ri_of (by decide +kernel) rfl
theorem wi_456_149 : ri (rt_P sc fm) 456 149 (.getfield 185) (152) := ri_of (by decide +kernel) rfl
theorem wi_456_15 : ri (rt_P sc fm) 456 15 (.iaload) (16) := ri_of (by decide +kernel) rfl
theorem wi_456_152 : ri (rt_P sc fm) 456 152 (.iload 4) (154) := ri_of (by decide +kernel) rfl
theorem wi_456_154 : ri (rt_P sc fm) 456 154 (.iaload) (155) := ri_of (by decide +kernel) rfl
theorem wi_456_155 : ri (rt_P sc fm) 456 155 (.bipush 27) (157) := ri_of (by decide +kernel) rfl
theorem wi_456_157 : ri (rt_P sc fm) 456 157 (.if_icmp .eq 12) (160) := ri_of (by decide +kernel) rfl
theorem wi_456_16 : ri (rt_P sc fm) 456 16 (.if_icmp .ge 19) (19) := ri_of (by decide +kernel) rfl
theorem wi_456_160 : ri (rt_P sc fm) 456 160 (.aload_n 0) (161) := ri_of (by decide +kernel) rfl
theorem wi_456_161 : ri (rt_P sc fm) 456 161 (.iload 4) (163) := ri_of (by decide +kernel) rfl
theorem wi_456_163 : ri (rt_P sc fm) 456 163 (.iconst 1) (164) := ri_of (by decide +kernel) rfl
theorem wi_456_164 : ri (rt_P sc fm) 456 164 (.iadd) (165) := ri_of (by decide +kernel) rfl
theorem wi_456_165 : ri (rt_P sc fm) 456 165 (.iload_n 2) (166) := ri_of (by decide +kernel) rfl
theorem wi_456_166 : ri (rt_P sc fm) 456 166 (.invokevirtual 847) (169) := ri_of (by decide +kernel) rfl
theorem wi_456_169 : ri (rt_P sc fm) 456 169 (.aload_n 0) (170) := ri_of (by decide +kernel) rfl
theorem wi_456_170 : ri (rt_P sc fm) 456 170 (.getfield 200) (173) := ri_of (by decide +kernel) rfl
theorem wi_456_173 : ri (rt_P sc fm) 456 173 (.iload 4) (175) := ri_of (by decide +kernel) rfl
theorem wi_456_175 : ri (rt_P sc fm) 456 175 (.iaload) (176) := ri_of (by decide +kernel) rfl
theorem wi_456_176 : ri (rt_P sc fm) 456 176 (.ifCond .ge 6) (179) := ri_of (by decide +kernel) rfl
theorem wi_456_179 : ri (rt_P sc fm) 456 179 (.goto 80) (182) := ri_of (by decide +kernel) rfl
theorem wi_456_182 : ri (rt_P sc fm) 456 182 (.bipush 8) (184) := ri_of (by decide +kernel) rfl
theorem wi_456_184 : ri (rt_P sc fm) 456 184 (.aload_n 0) (185) := ri_of (by decide +kernel) rfl
theorem wi_456_185 : ri (rt_P sc fm) 456 185 (.getfield 243) (188) := ri_of (by decide +kernel) rfl
theorem wi_456_188 : ri (rt_P sc fm) 456 188 (.iload 4) (190) := ri_of (by decide +kernel) rfl
theorem wi_456_19 : ri (rt_P sc fm) 456 19 (.aload_n 0) (20) := ri_of (by decide +kernel) rfl
theorem wi_456_190 : ri (rt_P sc fm) 456 190 (.iaload) (191) := ri_of (by decide +kernel) rfl
theorem wi_456_191 : ri (rt_P sc fm) 456 191 (.iadd) (192) := ri_of (by decide +kernel) rfl
theorem wi_456_192 : ri (rt_P sc fm) 456 192 (.iconst 1) (193) := ri_of (by decide +kernel) rfl
theorem wi_456_193 : ri (rt_P sc fm) 456 193 (.isub) (194) := ri_of (by decide +kernel) rfl
theorem wi_456_194 : ri (rt_P sc fm) 456 194 (.istore 5) (196) := ri_of (by decide +kernel) rfl
theorem wi_456_196 : ri (rt_P sc fm) 456 196 (.aload_n 0) (197) := ri_of (by decide +kernel) rfl
theorem wi_456_197 : ri (rt_P sc fm) 456 197 (.getfield 185) (200) := ri_of (by decide +kernel) rfl
theorem wi_456_2 : ri (rt_P sc fm) 456 2 (.iload_n 1) (3) := ri_of (by decide +kernel) rfl
theorem wi_456_20 : ri (rt_P sc fm) 456 20 (.getfield 271) (23) := ri_of (by decide +kernel) rfl
theorem wi_456_200 : ri (rt_P sc fm) 456 200 (.iload 4) (202) := ri_of (by decide +kernel) rfl
theorem wi_456_202 : ri (rt_P sc fm) 456 202 (.iaload) (203) := ri_of (by decide +kernel) rfl
theorem wi_456_203 : ri (rt_P sc fm) 456 203 (.bipush 29) (205) := ri_of (by decide +kernel) rfl
theorem wi_456_205 : ri (rt_P sc fm) 456 205 (.if_icmp .ne 40) (208) := ri_of (by decide +kernel) rfl
theorem wi_456_208 : ri (rt_P sc fm) 456 208 (.aload_n 0) (209) := ri_of (by decide +kernel) rfl
theorem wi_456_209 : ri (rt_P sc fm) 456 209 (.getfield 194) (212) := ri_of (by decide +kernel) rfl
theorem wi_456_212 : ri (rt_P sc fm) 456 212 (.iload 4) (214) := ri_of (by decide +kernel) rfl
theorem wi_456_214 : ri (rt_P sc fm) 456 214 (.iaload) (215) := ri_of (by decide +kernel) rfl
theorem wi_456_215 : ri (rt_P sc fm) 456 215 (.iload_n 2) (216) := ri_of (by decide +kernel) rfl
theorem wi_456_216 : ri (rt_P sc fm) 456 216 (.if_icmp .ne 29) (219) := ri_of (by decide +kernel) rfl
theorem wi_456_219 : ri (rt_P sc fm) 456 219 (.aload_n 0) (220) := ri_of (by decide +kernel) rfl
theorem wi_456_220 : ri (rt_P sc fm) 456 220 (.getfield 274) (223) := ri_of (by decide +kernel) rfl
theorem wi_456_223 : ri (rt_P sc fm) 456 223 (.iload 5) (225) := ri_of (by decide +kernel) rfl
theorem wi_456_225 : ri (rt_P sc fm) 456 225 (.aload_n 0) (226) := ri_of (by decide +kernel) rfl
theorem wi_456_226 : ri (rt_P sc fm) 456 226 (.iload_n 2) (227) := ri_of (by decide +kernel) rfl
theorem wi_456_227 : ri (rt_P sc fm) 456 227 (.aload_n 0) (228) := ri_of (by decide +kernel) rfl
theorem wi_456_228 : ri (rt_P sc fm) 456 228 (.getfield 274) (231) := ri_of (by decide +kernel) rfl
theorem wi_456_23 : ri (rt_P sc fm) 456 23 (.iload_n 3) (24) := ri_of (by decide +kernel) rfl
theorem wi_456_231 : ri (rt_P sc fm) 456 231 (.iload 5) (233) := ri_of (by decide +kernel) rfl
theorem wi_456_233 : ri (rt_P sc fm) 456 233 (.iaload) (234) := ri_of (by decide +kernel) rfl
theorem wi_456_234 : ri (rt_P sc fm) 456 234 (.aload_n 0) (235) := ri_of (by decide +kernel) rfl
theorem wi_456_235 : ri (rt_P sc fm) 456 235 (.getfield 197) (238) := ri_of (by decide +kernel) rfl
theorem wi_456_238 : ri (rt_P sc fm) 456 238 (.iload 4) (240) := ri_of (by decide +kernel) rfl
theorem wi_456_24 : ri (rt_P sc fm) 456 24 (.iload 4) (26) := ri_of (by decide +kernel) rfl
theorem wi_456_240 : ri (rt_P sc fm) 456 240 (.iaload) (241) := ri_of (by decide +kernel) rfl
theorem wi_456_241 : ri (rt_P sc fm) 456 241 (.invokevirtual 730) (244) := ri_of (by decide +kernel) rfl
theorem wi_456_244 : ri (rt_P sc fm) 456 244 (.iastore) (245) := ri_of (by decide +kernel) rfl
theorem wi_456_245 : ri (rt_P sc fm) 456 245 (.aload_n 0) (246) := ri_of (by decide +kernel) rfl
theorem wi_456_246 : ri (rt_P sc fm) 456 246 (.iload_n 3) (247) := ri_of (by decide +kernel) rfl
theorem wi_456_247 : ri (rt_P sc fm) 456 247 (.aload_n 0) (248) := ri_of (by decide +kernel) rfl
theorem wi_456_248 : ri (rt_P sc fm) 456 248 (.getfield 200) (251) := ri_of (by decide +kernel) rfl
theorem wi_456_251 : ri (rt_P sc fm) 456 251 (.iload 4) (253) := ri_of (by decide +kernel) rfl
theorem wi_456_253 : ri (rt_P sc fm) 456 253 (.iaload) (254) := ri_of (by decide +kernel) rfl
theorem wi_456_254 : ri (rt_P sc fm) 456 254 (.iadd) (255) := ri_of (by decide +kernel) rfl
theorem wi_456_255 : ri (rt_P sc fm) 456 255 (.iload_n 2) (256) := ri_of (by decide +kernel) rfl
theorem wi_456_256 : ri (rt_P sc fm) 456 256 (.invokevirtual 847) (259) := ri_of (by decide +kernel) rfl
theorem wi_456_259 : ri (rt_P sc fm) 456 259 (.iinc 4 1) (262) := ri_of (by decide +kernel) rfl
theorem wi_456_26 : ri (rt_P sc fm) 456 26 (.iadd) (27) := ri_of (by decide +kernel) rfl
theorem wi_456_262 : ri (rt_P sc fm) 456 262 (.goto (-195)) (265) := ri_of (by decide +kernel) rfl
theorem wi_456_265 : ri (rt_P sc fm) 456 265 (.goto (-213)) (268) := ri_of (by decide +kernel) rfl
theorem wi_456_268 : ri (rt_P sc fm) 456 268 (.return_) (269) := ri_of (by decide +kernel) rfl
theorem wi_456_27 : ri (rt_P sc fm) 456 27 (.iconst 0) (28) := ri_of (by decide +kernel) rfl
theorem wi_456_28 : ri (rt_P sc fm) 456 28 (.bastore) (29) := ri_of (by decide +kernel) rfl
theorem wi_456_29 : ri (rt_P sc fm) 456 29 (.iinc 4 1) (32) := ri_of (by decide +kernel) rfl
theorem wi_456_3 : ri (rt_P sc fm) 456 3 (.imul) (4) := ri_of (by decide +kernel) rfl
theorem wi_456_32 : ri (rt_P sc fm) 456 32 (.goto (-24)) (35) := ri_of (by decide +kernel) rfl
theorem wi_456_35 : ri (rt_P sc fm) 456 35 (.aload_n 0) (36) := ri_of (by decide +kernel) rfl
theorem wi_456_36 : ri (rt_P sc fm) 456 36 (.iload_n 1) (37) := ri_of (by decide +kernel) rfl
theorem wi_456_37 : ri (rt_P sc fm) 456 37 (.iload_n 2) (38) := ri_of (by decide +kernel) rfl
theorem wi_456_38 : ri (rt_P sc fm) 456 38 (.invokevirtual 844) (41) := ri_of (by decide +kernel) rfl
theorem wi_456_4 : ri (rt_P sc fm) 456 4 (.istore_n 3) (5) := ri_of (by decide +kernel) rfl
theorem wi_456_41 : ri (rt_P sc fm) 456 41 (.aload_n 0) (42) := ri_of (by decide +kernel) rfl
theorem wi_456_42 : ri (rt_P sc fm) 456 42 (.iload_n 3) (43) := ri_of (by decide +kernel) rfl
theorem wi_456_43 : ri (rt_P sc fm) 456 43 (.iload_n 2) (44) := ri_of (by decide +kernel) rfl
theorem wi_456_44 : ri (rt_P sc fm) 456 44 (.invokevirtual 847) (47) := ri_of (by decide +kernel) rfl
theorem wi_456_47 : ri (rt_P sc fm) 456 47 (.aload_n 0) (48) := ri_of (by decide +kernel) rfl
theorem wi_456_48 : ri (rt_P sc fm) 456 48 (.iconst 1) (49) := ri_of (by decide +kernel) rfl
theorem wi_456_49 : ri (rt_P sc fm) 456 49 (.putfield 841) (52) := ri_of (by decide +kernel) rfl
theorem wi_456_5 : ri (rt_P sc fm) 456 5 (.iconst 0) (6) := ri_of (by decide +kernel) rfl
theorem wi_456_52 : ri (rt_P sc fm) 456 52 (.aload_n 0) (53) := ri_of (by decide +kernel) rfl
theorem wi_456_53 : ri (rt_P sc fm) 456 53 (.getfield 841) (56) := ri_of (by decide +kernel) rfl
theorem wi_456_56 : ri (rt_P sc fm) 456 56 (.ifCond .eq 212) (59) := ri_of (by decide +kernel) rfl
theorem wi_456_59 : ri (rt_P sc fm) 456 59 (.aload_n 0) (60) := ri_of (by decide +kernel) rfl
theorem wi_456_6 : ri (rt_P sc fm) 456 6 (.istore 4) (8) := ri_of (by decide +kernel) rfl
theorem wi_456_60 : ri (rt_P sc fm) 456 60 (.iconst 0) (61) := ri_of (by decide +kernel) rfl
theorem wi_456_61 : ri (rt_P sc fm) 456 61 (.putfield 841) (64) := ri_of (by decide +kernel) rfl
theorem wi_456_64 : ri (rt_P sc fm) 456 64 (.iload_n 3) (65) := ri_of (by decide +kernel) rfl
theorem wi_456_65 : ri (rt_P sc fm) 456 65 (.istore 4) (67) := ri_of (by decide +kernel) rfl
theorem wi_456_67 : ri (rt_P sc fm) 456 67 (.iload 4) (69) := ri_of (by decide +kernel) rfl
theorem wi_456_69 : ri (rt_P sc fm) 456 69 (.iload_n 3) (70) := ri_of (by decide +kernel) rfl
theorem wi_456_70 : ri (rt_P sc fm) 456 70 (.aload_n 0) (71) := ri_of (by decide +kernel) rfl
theorem wi_456_71 : ri (rt_P sc fm) 456 71 (.getfield 182) (74) := ri_of (by decide +kernel) rfl
theorem wi_456_74 : ri (rt_P sc fm) 456 74 (.iload_n 1) (75) := ri_of (by decide +kernel) rfl
theorem wi_456_75 : ri (rt_P sc fm) 456 75 (.iaload) (76) := ri_of (by decide +kernel) rfl
theorem wi_456_76 : ri (rt_P sc fm) 456 76 (.iadd) (77) := ri_of (by decide +kernel) rfl
theorem wi_456_77 : ri (rt_P sc fm) 456 77 (.if_icmp .ge 188) (80) := ri_of (by decide +kernel) rfl
theorem wi_456_8 : ri (rt_P sc fm) 456 8 (.iload 4) (10) := ri_of (by decide +kernel) rfl
theorem wi_456_80 : ri (rt_P sc fm) 456 80 (.aload_n 0) (81) := ri_of (by decide +kernel) rfl
theorem wi_456_81 : ri (rt_P sc fm) 456 81 (.getfield 271) (84) := ri_of (by decide +kernel) rfl
theorem wi_456_84 : ri (rt_P sc fm) 456 84 (.iload 4) (86) := ri_of (by decide +kernel) rfl
theorem wi_456_86 : ri (rt_P sc fm) 456 86 (.baload) (87) := ri_of (by decide +kernel) rfl
theorem wi_456_87 : ri (rt_P sc fm) 456 87 (.ifCond .ne 6) (90) := ri_of (by decide +kernel) rfl
theorem wi_456_90 : ri (rt_P sc fm) 456 90 (.goto 169) (93) := ri_of (by decide +kernel) rfl
theorem wi_456_93 : ri (rt_P sc fm) 456 93 (.iconst 0) (94) := ri_of (by decide +kernel) rfl
theorem wi_456_94 : ri (rt_P sc fm) 456 94 (.istore 5) (96) := ri_of (by decide +kernel) rfl
theorem wi_456_96 : ri (rt_P sc fm) 456 96 (.iload 5) (98) := ri_of (by decide +kernel) rfl
theorem wi_456_98 : ri (rt_P sc fm) 456 98 (.bipush 16) (100) := ri_of (by decide +kernel) rfl
theorem wm_452 : rx_ml (rt_P sc fm) 452 = 4 := (by decide +kernel : rt_ml 452 = 4)
theorem wm_454 : rx_ml (rt_P sc fm) 454 = 5 := (by decide +kernel : rt_ml 454 = 5)
theorem wm_455 : rx_ml (rt_P sc fm) 455 = 5 := (by decide +kernel : rt_ml 455 = 5)
theorem wp_456_841 : rx_pt (rt_P sc fm) 456 841 = some (15, 90, .boolean) := (by decide +kernel : rt_pt 456 841 = some (15, 90, .boolean))
theorem wr_456 : rx_rt (rt_P sc fm) 456 = none := (by decide +kernel : rt_rt 456 = none)
/-- MarkHouseModel.flowOf(II)V -/
def d_456 (n : Nat) (a1 : Int32) (a2 : Int32) (c : cS) : Option (cS) :=
  lt ((40 * a1) : Int32) (fun v2 =>
  Option.bind (whl (R := (cS)) (fun s5 : Int32 × cS =>
    if ib a1 96 then
    if (s5.2.1 210 (ix a1)) ≤ s5.1 then
      some (.inr s5.2)
    else
      if ib (v2 + s5.1) 3840 then
      lt (pI s5.2 239 (ix (v2 + s5.1)) (vp_nar .boolean 0)) (fun c8 =>
      lt (s5.1 + 1 : Int32) (fun v11 =>
      some (.inl (v11, c8))))
      else none
    else none) n (0, c))
  (fun x13 : cS =>
    Option.bind (d_452 n a1 a2 x13) (fun r14 =>
    Option.bind (d_455 n v2 a2 r14) (fun r15 =>
    lt (pI r15 174 90 1) (fun c16 =>
    Option.bind (whl (R := (cS)) (fun s18 : cS =>
      if (s18.1 174 90) = 0 then
        some (.inr s18)
      else
        lt (pI s18 174 90 0) (fun c19 =>
        Option.bind (whl (R := (cS)) (fun s22 : Int32 × cS =>
          if ib a1 96 then
          if (v2 + (s22.2.1 210 (ix a1))) ≤ s22.1 then
            some (.inr s22.2)
          else
            if ib s22.1 3840 then
            jn (fun p25 : cS =>
              lt (s22.1 + 1 : Int32) (fun v27 =>
              some (.inl (v27, p25))))
            (fun j259 =>
            if (s22.2.1 239 (ix s22.1)) = 0 then
              j259 s22.2
            else
              Option.bind (whl (R := (cS)) (fun s30 : Int32 × cS =>
                if 16 ≤ s30.1 then
                  some (.inr s30.2)
                else
                  if ib ((16 * s22.1) + s30.1) 61440 then
                  if ib s30.1 16 then
                  lt (pI s30.2 240 (ix s30.1) (s30.2.1 238 (ix ((16 * s22.1) + s30.1)))) (fun c33 =>
                  lt (s30.1 + 1 : Int32) (fun v36 =>
                  some (.inl (v36, c33))))
                  else none
                  else none) n (0, s22.2))
              (fun x38 : cS =>
                Option.bind (d_454 n s22.1 a2 x38) (fun r39 =>
                if ib s22.1 3840 then
                jn (fun p41 : cS =>
                  if ib s22.1 3840 then
                  if 0 ≤ (p41.1 216 (ix s22.1)) then
                    if ib s22.1 3840 then
                    lt (((8 + (p41.1 230 (ix s22.1))) - 1) : Int32) (fun v45 =>
                    if ib s22.1 3840 then
                    jn (fun p48 : cS =>
                      if ib s22.1 3840 then
                      Option.bind (d_455 n (v2 + (p48.1 216 (ix s22.1))) a2 p48) (fun r50 =>
                      j259 r50)
                      else none)
                    (fun j245 =>
                    if (p41.1 211 (ix s22.1)) = 29 then
                      if ib s22.1 3840 then
                      if (p41.1 214 (ix s22.1)) = a2 then
                        if ib v45 16 then
                        if ib s22.1 3840 then
                        Option.bind (d_391 n a2 (p41.1 240 (ix v45)) (p41.1 215 (ix s22.1)) p41) (fun v54 =>
                        if ib v45 16 then
                        lt (pI p41 240 (ix v45) v54) (fun c56 =>
                        j245 c56)
                        else none)
                        else none
                        else none
                      else
                        j245 p41
                      else none
                    else
                      j245 p41)
                    else none)
                    else none
                  else
                    j259 p41
                  else none)
                (fun j169 =>
                if (r39.1 211 (ix s22.1)) = 21 then
                  j169 r39
                else
                  if ib s22.1 3840 then
                  if (r39.1 211 (ix s22.1)) = 27 then
                    j169 r39
                  else
                    Option.bind (d_455 n (s22.1 + 1) a2 r39) (fun r59 =>
                    j169 r59)
                  else none)
                else none)))
            else none
          else none) n (v2, c19))
        (fun x60 : cS =>
          some (.inl x60)))) n c16)
    (fun x61 : cS =>
      some x61))))))
theorem sp_456 {F Lo n : Nat} {a1 : Int32} {a2 : Int32} {c y : cS} {w : cW} {K : cS → Prop} {Q : ((Option Value) ⊕ String) → List va_E → Prop} (hw : rOK fm w) (hF : 3 ≤ F) (hLo : 70 ≤ Lo)  (h : wp (d_456 n a1 a2 c) K) (hQ : ∀ r, K r → Q (.inl none) (hq false r y w)) : rs (rt_P sc fm) 456 F Lo 0 [(0, .ref 174), (1, .int a1), (2, .int a2)] [] (hq false c y w) Q := by
  unfold d_456 at h
  obtain ⟨lv, elv⟩ : ∃ lv : rx_L, lv = [(0, .ref 174), (1, .int a1), (2, .int a2)] := ⟨_, rfl⟩
  rw [← elv]
  have l0 : rx_ld lv 0 = some (.ref 174) := by rw [elv]; rfl
  have l1 : rx_ld lv 1 = some (.int a1) := by rw [elv]; rfl
  have l2 : rx_ld lv 2 = some (.int a2) := by rw [elv]; rfl
  refine rs_pure wi_456_0 rfl ?_
  refine rs_topi (v := 40) (by decide) ?_
  refine rs_ildn wi_456_2 l1 ?_
  refine rs_pure wi_456_3 rfl ?_
  obtain ⟨v2, e3, h⟩ := wp_lt h
  refine rs_topi e3 ?_
  refine dl_istn wi_456_4 rfl (fun lv l3 t1 => ?_)
  have l0 := t1 _ _ (by decide) (Or.inl rfl) l0
  have l1 := t1 _ _ (by decide) (Or.inl rfl) l1
  have l2 := t1 _ _ (by decide) (Or.inl rfl) l2
  refine rs_pure wi_456_5 rfl ?_
  refine rs_topi (v := 0) (by decide) ?_
  refine dl_ist wi_456_6 rfl (fun lv l4 t4 => ?_)
  have l0 := t4 _ _ (by decide) (Or.inl rfl) l0
  have l1 := t4 _ _ (by decide) (Or.inl rfl) l1
  have l2 := t4 _ _ (by decide) (Or.inl rfl) l2
  have l3 := t4 _ _ (by decide) (Or.inl rfl) l3
  refine whl_ex (A := fun s5 : Int32 × cS => ∀ lv, rx_ld lv 0 = some (.ref 174) → rx_ld lv 1 = some (.int a1) → rx_ld lv 2 = some (.int a2) → rx_ld lv 3 = some (.int v2) → rx_ld lv 4 = some (.int s5.1) → rs (rt_P sc fm) 456 F Lo 8 lv [] (hq false s5.2 y w) Q) (B := (fun x13 : cS => ∀ lv, rx_ld lv 0 = some (.ref 174) → rx_ld lv 1 = some (.int a1) → rx_ld lv 2 = some (.int a2) → rx_ld lv 3 = some (.int v2) → rs (rt_P sc fm) 456 F Lo 35 lv [] (hq false x13 y w) Q)) ?_ ?_ _ _ (wp_bind h) _ l0 l1 l2 l3 l4
  · intro s5 h lv l0 l1 l2 l3 l4
    refine rs_ild wi_456_8 l4 ?_
    refine rs_aldn wi_456_10 l0 ?_
    refine dq_gr wi_456_11 wf_456_182 tf_174_48 ?_
    refine rs_ildn wi_456_14 l1 ?_
    obtain ⟨g6, h⟩ := wp_gd h
    refine dq_iald wi_456_15 t_210 g6 ?_
    refine rs_icge (tg := 35) wi_456_16 ⟨by decide, by decide⟩ (fun q => ?_) (fun q => ?_)
    ·
      have h := wp_pos h q
      exact h _ l0 l1 l2 l3
    ·
      have h := wp_neg h q
      refine rs_aldn wi_456_19 l0 ?_
      refine dq_gr wi_456_20 wf_456_271 tf_174_88 ?_
      refine rs_ildn wi_456_23 l3 ?_
      refine rs_ild wi_456_24 l4 ?_
      refine rs_pure wi_456_26 rfl ?_
      refine rs_pure wi_456_27 rfl ?_
      refine rs_topi (v := 0) (by decide) ?_
      obtain ⟨g7, h⟩ := wp_gd h
      obtain ⟨c8, e9, h⟩ := wp_lt h
      refine dq_zast wi_456_28 t_239 g7 e9 ?_
      obtain ⟨v11, e12, h⟩ := wp_lt h
      refine dl_inc wi_456_29 l4 rfl e12 (fun lv l4 t10 => ?_)
      have l0 := t10 _ _ (by decide) (Or.inl rfl) l0
      have l1 := t10 _ _ (by decide) (Or.inl rfl) l1
      have l2 := t10 _ _ (by decide) (Or.inl rfl) l2
      have l3 := t10 _ _ (by decide) (Or.inl rfl) l3
      refine rs_goto (tg := 8) wi_456_32 ⟨by decide, by decide⟩ ?_
      exact h _ l0 l1 l2 l3 l4
  ·
    intro x13 h lv l0 l1 l2 l3
    refine rs_aldn wi_456_35 l0 ?_
    refine rs_ildn wi_456_36 l1 ?_
    refine rs_ildn wi_456_37 l2 ?_
    refine rs_V wi_456_38 wc_456_844 rfl (dq_isa tf_174_0 wa_15_452) (Nat.le_trans (by decide) hF) (ml_le wm_452 (Nat.le_trans (by decide) hLo)) rfl (sp_452 hw (Nat.le_trans (by decide : 1 ≤ 3 - 1) (Nat.sub_le_sub_right hF 1)) (ml_sub wm_452 (Nat.le_trans (by decide : 20 ≤ 70 - 23) (Nat.sub_le_sub_right hLo 23))) (wp_bind h) (fun r14 h => rs_back0 ?_))
    refine rs_aldn wi_456_41 l0 ?_
    refine rs_ildn wi_456_42 l3 ?_
    refine rs_ildn wi_456_43 l2 ?_
    refine rs_V wi_456_44 wc_456_847 rfl (dq_isa tf_174_0 wa_15_455) (Nat.le_trans (by decide) hF) (ml_le wm_455 (Nat.le_trans (by decide) hLo)) rfl (sp_455 hw (Nat.le_trans (by decide : 2 ≤ 3 - 1) (Nat.sub_le_sub_right hF 1)) (ml_sub wm_455 (Nat.le_trans (by decide : 46 ≤ 70 - 24) (Nat.sub_le_sub_right hLo 24))) (wp_bind h) (fun r15 h => rs_back0 ?_))
    refine rs_aldn wi_456_47 l0 ?_
    refine rs_pure wi_456_48 rfl ?_
    refine rs_topi (v := 1) (by decide) ?_
    obtain ⟨c16, e17, h⟩ := wp_lt h
    refine dq_pi wi_456_49 wp_456_841 tf_174_90 (nb_n (by decide)) (nb_f (by decide)) e17 ?_
    refine whl_ex (A := fun s18 : cS => ∀ lv, rx_ld lv 0 = some (.ref 174) → rx_ld lv 1 = some (.int a1) → rx_ld lv 2 = some (.int a2) → rx_ld lv 3 = some (.int v2) → rs (rt_P sc fm) 456 F Lo 52 lv [] (hq false s18 y w) Q) (B := (fun x61 : cS => ∀ lv, rs (rt_P sc fm) 456 F Lo 268 lv [] (hq false x61 y w) Q)) ?_ ?_ _ _ (wp_bind h) _ l0 l1 l2 l3
    · intro s18 h lv l0 l1 l2 l3
      refine rs_aldn wi_456_52 l0 ?_
      refine dq_gi wi_456_53 wf_456_841 tf_174_90 ?_
      refine rs_ifeq (tg := 268) wi_456_56 ⟨by decide, by decide⟩ (fun q => ?_) (fun q => ?_)
      ·
        have h := wp_pos h q
        exact h _
      ·
        have h := wp_neg h q
        refine rs_aldn wi_456_59 l0 ?_
        refine rs_pure wi_456_60 rfl ?_
        refine rs_topi (v := 0) (by decide) ?_
        obtain ⟨c19, e20, h⟩ := wp_lt h
        refine dq_pi wi_456_61 wp_456_841 tf_174_90 (nb_n (by decide)) (nb_f (by decide)) e20 ?_
        refine rs_ildn wi_456_64 l3 ?_
        refine dl_ist wi_456_65 rfl (fun lv l4 t21 => ?_)
        have l0 := t21 _ _ (by decide) (Or.inl rfl) l0
        have l1 := t21 _ _ (by decide) (Or.inl rfl) l1
        have l2 := t21 _ _ (by decide) (Or.inl rfl) l2
        have l3 := t21 _ _ (by decide) (Or.inl rfl) l3
        refine whl_ex (A := fun s22 : Int32 × cS => ∀ lv, rx_ld lv 0 = some (.ref 174) → rx_ld lv 1 = some (.int a1) → rx_ld lv 2 = some (.int a2) → rx_ld lv 3 = some (.int v2) → rx_ld lv 4 = some (.int s22.1) → rs (rt_P sc fm) 456 F Lo 67 lv [] (hq false s22.2 y w) Q) (B := (fun x60 : cS => ∀ lv, rx_ld lv 0 = some (.ref 174) → rx_ld lv 1 = some (.int a1) → rx_ld lv 2 = some (.int a2) → rx_ld lv 3 = some (.int v2) → rs (rt_P sc fm) 456 F Lo 265 lv [] (hq false x60 y w) Q)) ?_ ?_ _ _ (wp_bind h) _ l0 l1 l2 l3 l4
        · intro s22 h lv l0 l1 l2 l3 l4
          refine rs_ild wi_456_67 l4 ?_
          refine rs_ildn wi_456_69 l3 ?_
          refine rs_aldn wi_456_70 l0 ?_
          refine dq_gr wi_456_71 wf_456_182 tf_174_48 ?_
          refine rs_ildn wi_456_74 l1 ?_
          obtain ⟨g23, h⟩ := wp_gd h
          refine dq_iald wi_456_75 t_210 g23 ?_
          refine rs_pure wi_456_76 rfl ?_
          refine rs_icge (tg := 265) wi_456_77 ⟨by decide, by decide⟩ (fun q => ?_) (fun q => ?_)
          ·
            have h := wp_pos h q
            exact h _ l0 l1 l2 l3
          ·
            have h := wp_neg h q
            refine rs_aldn wi_456_80 l0 ?_
            refine dq_gr wi_456_81 wf_456_271 tf_174_88 ?_
            refine rs_ild wi_456_84 l4 ?_
            obtain ⟨g24, h⟩ := wp_gd h
            refine dq_zald wi_456_86 t_239 g24 ?_
            refine wp_jn (B := fun p25 : cS => ∀ lv, rx_ld lv 0 = some (.ref 174) → rx_ld lv 1 = some (.int a1) → rx_ld lv 2 = some (.int a2) → rx_ld lv 3 = some (.int v2) → rx_ld lv 4 = some (.int s22.1) → rs (rt_P sc fm) 456 F Lo 259 lv [] (hq false p25 y w) Q) h (fun p25 h lv l0 l1 l2 l3 l4 => ?_) (fun j259 hj259 h => ?_)
            ·
              obtain ⟨v27, e28, h⟩ := wp_lt h
              refine dl_inc wi_456_259 l4 rfl e28 (fun lv l4 t26 => ?_)
              have l0 := t26 _ _ (by decide) (Or.inl rfl) l0
              have l1 := t26 _ _ (by decide) (Or.inl rfl) l1
              have l2 := t26 _ _ (by decide) (Or.inl rfl) l2
              have l3 := t26 _ _ (by decide) (Or.inl rfl) l3
              refine rs_goto (tg := 67) wi_456_262 ⟨by decide, by decide⟩ ?_
              exact h _ l0 l1 l2 l3 l4
            refine rs_ifne (tg := 93) wi_456_87 ⟨by decide, by decide⟩ (fun q => ?_) (fun q => ?_)
            ·
              have h := wp_neg h q
              refine rs_pure wi_456_93 rfl ?_
              refine rs_topi (v := 0) (by decide) ?_
              refine dl_ist wi_456_94 rfl (fun lv l5 t29 => ?_)
              have l0 := t29 _ _ (by decide) (Or.inl rfl) l0
              have l1 := t29 _ _ (by decide) (Or.inl rfl) l1
              have l2 := t29 _ _ (by decide) (Or.inl rfl) l2
              have l3 := t29 _ _ (by decide) (Or.inl rfl) l3
              have l4 := t29 _ _ (by decide) (Or.inl rfl) l4
              refine whl_ex (A := fun s30 : Int32 × cS => ∀ lv, rx_ld lv 0 = some (.ref 174) → rx_ld lv 1 = some (.int a1) → rx_ld lv 2 = some (.int a2) → rx_ld lv 3 = some (.int v2) → rx_ld lv 4 = some (.int s22.1) → rx_ld lv 5 = some (.int s30.1) → rs (rt_P sc fm) 456 F Lo 96 lv [] (hq false s30.2 y w) Q) (B := (fun x38 : cS => ∀ lv, rx_ld lv 0 = some (.ref 174) → rx_ld lv 1 = some (.int a1) → rx_ld lv 2 = some (.int a2) → rx_ld lv 3 = some (.int v2) → rx_ld lv 4 = some (.int s22.1) → rs (rt_P sc fm) 456 F Lo 129 lv [] (hq false x38 y w) Q)) ?_ ?_ _ _ (wp_bind h) _ l0 l1 l2 l3 l4 l5
              · intro s30 h lv l0 l1 l2 l3 l4 l5
                refine rs_ild wi_456_96 l5 ?_
                refine rs_pure wi_456_98 rfl ?_
                refine rs_topi (v := 16) (by decide) ?_
                refine rs_icge (tg := 129) wi_456_100 ⟨by decide, by decide⟩ (fun q => ?_) (fun q => ?_)
                ·
                  have h := wp_pos h q
                  exact h _ l0 l1 l2 l3 l4
                ·
                  have h := wp_neg h q
                  refine rs_aldn wi_456_103 l0 ?_
                  refine dq_gr wi_456_104 wf_456_274 tf_174_89 ?_
                  refine rs_ild wi_456_107 l5 ?_
                  refine rs_aldn wi_456_109 l0 ?_
                  refine dq_gr wi_456_110 wf_456_268 tf_174_87 ?_
                  refine rs_pure wi_456_113 rfl ?_
                  refine rs_topi (v := 16) (by decide) ?_
                  refine rs_ild wi_456_115 l4 ?_
                  refine rs_pure wi_456_117 rfl ?_
                  refine rs_ild wi_456_118 l5 ?_
                  refine rs_pure wi_456_120 rfl ?_
                  obtain ⟨g31, h⟩ := wp_gd h
                  refine dq_iald wi_456_121 t_238 g31 ?_
                  obtain ⟨g32, h⟩ := wp_gd h
                  obtain ⟨c33, e34, h⟩ := wp_lt h
                  refine dq_iast wi_456_122 t_240 g32 e34 ?_
                  obtain ⟨v36, e37, h⟩ := wp_lt h
                  refine dl_inc wi_456_123 l5 rfl e37 (fun lv l5 t35 => ?_)
                  have l0 := t35 _ _ (by decide) (Or.inl rfl) l0
                  have l1 := t35 _ _ (by decide) (Or.inl rfl) l1
                  have l2 := t35 _ _ (by decide) (Or.inl rfl) l2
                  have l3 := t35 _ _ (by decide) (Or.inl rfl) l3
                  have l4 := t35 _ _ (by decide) (Or.inl rfl) l4
                  refine rs_goto (tg := 96) wi_456_126 ⟨by decide, by decide⟩ ?_
                  exact h _ l0 l1 l2 l3 l4 l5
              ·
                intro x38 h lv l0 l1 l2 l3 l4
                refine rs_aldn wi_456_129 l0 ?_
                refine rs_ild wi_456_130 l4 ?_
                refine rs_ildn wi_456_132 l2 ?_
                refine rs_V wi_456_133 wc_456_850 rfl (dq_isa tf_174_0 wa_15_454) (Nat.le_trans (by decide) hF) (ml_le wm_454 (Nat.le_trans (by decide) hLo)) rfl (sp_454 hw (Nat.le_trans (by decide : 2 ≤ 3 - 1) (Nat.sub_le_sub_right hF 1)) (ml_sub wm_454 (Nat.le_trans (by decide : 46 ≤ 70 - 24) (Nat.sub_le_sub_right hLo 24))) (wp_bind h) (fun r39 h => rs_back0 ?_))
                refine rs_aldn wi_456_136 l0 ?_
                refine dq_gr wi_456_137 wf_456_185 tf_174_49 ?_
                refine rs_ild wi_456_140 l4 ?_
                obtain ⟨g40, h⟩ := wp_gd h
                refine dq_iald wi_456_142 t_211 g40 ?_
                refine rs_pure wi_456_143 rfl ?_
                refine rs_topi (v := 21) (by decide) ?_
                refine wp_jn (B := fun p41 : cS => ∀ lv, rx_ld lv 0 = some (.ref 174) → rx_ld lv 1 = some (.int a1) → rx_ld lv 2 = some (.int a2) → rx_ld lv 3 = some (.int v2) → rx_ld lv 4 = some (.int s22.1) → rs (rt_P sc fm) 456 F Lo 169 lv [] (hq false p41 y w) Q) h (fun p41 h lv l0 l1 l2 l3 l4 => ?_) (fun j169 hj169 h => ?_)
                ·
                  refine rs_aldn wi_456_169 l0 ?_
                  refine dq_gr wi_456_170 wf_456_200 tf_174_54 ?_
                  refine rs_ild wi_456_173 l4 ?_
                  obtain ⟨g42, h⟩ := wp_gd h
                  refine dq_iald wi_456_175 t_216 g42 ?_
                  refine rs_ifge (tg := 182) wi_456_176 ⟨by decide, by decide⟩ (fun q => ?_) (fun q => ?_)
                  ·
                    have h := wp_pos h q
                    refine rs_pure wi_456_182 rfl ?_
                    refine rs_topi (v := 8) (by decide) ?_
                    refine rs_aldn wi_456_184 l0 ?_
                    refine dq_gr wi_456_185 wf_456_243 tf_174_70 ?_
                    refine rs_ild wi_456_188 l4 ?_
                    obtain ⟨g43, h⟩ := wp_gd h
                    refine dq_iald wi_456_190 t_230 g43 ?_
                    refine rs_pure wi_456_191 rfl ?_
                    refine rs_pure wi_456_192 rfl ?_
                    refine rs_topi (v := 1) (by decide) ?_
                    refine rs_pure wi_456_193 rfl ?_
                    obtain ⟨v45, e46, h⟩ := wp_lt h
                    refine rs_topi e46 ?_
                    refine dl_ist wi_456_194 rfl (fun lv l5 t44 => ?_)
                    have l0 := t44 _ _ (by decide) (Or.inl rfl) l0
                    have l1 := t44 _ _ (by decide) (Or.inl rfl) l1
                    have l2 := t44 _ _ (by decide) (Or.inl rfl) l2
                    have l3 := t44 _ _ (by decide) (Or.inl rfl) l3
                    have l4 := t44 _ _ (by decide) (Or.inl rfl) l4
                    refine rs_aldn wi_456_196 l0 ?_
                    refine dq_gr wi_456_197 wf_456_185 tf_174_49 ?_
                    refine rs_ild wi_456_200 l4 ?_
                    obtain ⟨g47, h⟩ := wp_gd h
                    refine dq_iald wi_456_202 t_211 g47 ?_
                    refine rs_pure wi_456_203 rfl ?_
                    refine rs_topi (v := 29) (by decide) ?_
                    refine wp_jn (B := fun p48 : cS => ∀ lv, rx_ld lv 0 = some (.ref 174) → rx_ld lv 1 = some (.int a1) → rx_ld lv 2 = some (.int a2) → rx_ld lv 3 = some (.int v2) → rx_ld lv 4 = some (.int s22.1) → rs (rt_P sc fm) 456 F Lo 245 lv [] (hq false p48 y w) Q) h (fun p48 h lv l0 l1 l2 l3 l4 => ?_) (fun j245 hj245 h => ?_)
                    ·
                      refine rs_aldn wi_456_245 l0 ?_
                      refine rs_ildn wi_456_246 l3 ?_
                      refine rs_aldn wi_456_247 l0 ?_
                      refine dq_gr wi_456_248 wf_456_200 tf_174_54 ?_
                      refine rs_ild wi_456_251 l4 ?_
                      obtain ⟨g49, h⟩ := wp_gd h
                      refine dq_iald wi_456_253 t_216 g49 ?_
                      refine rs_pure wi_456_254 rfl ?_
                      refine rs_ildn wi_456_255 l2 ?_
                      refine rs_V wi_456_256 wc_456_847 rfl (dq_isa tf_174_0 wa_15_455) (Nat.le_trans (by decide) hF) (ml_le wm_455 (Nat.le_trans (by decide) hLo)) rfl (sp_455 hw (Nat.le_trans (by decide : 2 ≤ 3 - 1) (Nat.sub_le_sub_right hF 1)) (ml_sub wm_455 (Nat.le_trans (by decide : 46 ≤ 70 - 24) (Nat.sub_le_sub_right hLo 24))) (wp_bind h) (fun r50 h => rs_back0 ?_))
                      exact hj259 _ h _ l0 l1 l2 l3 l4
                    refine rs_icne (tg := 245) wi_456_205 ⟨by decide, by decide⟩ (fun q => ?_) (fun q => ?_)
                    ·
                      have h := wp_neg h q
                      exact hj245 _ h _ l0 l1 l2 l3 l4
                    ·
                      have h := wp_pos h q
                      refine rs_aldn wi_456_208 l0 ?_
                      refine dq_gr wi_456_209 wf_456_194 tf_174_52 ?_
                      refine rs_ild wi_456_212 l4 ?_
                      obtain ⟨g51, h⟩ := wp_gd h
                      refine dq_iald wi_456_214 t_214 g51 ?_
                      refine rs_ildn wi_456_215 l2 ?_
                      refine rs_icne (tg := 245) wi_456_216 ⟨by decide, by decide⟩ (fun q => ?_) (fun q => ?_)
                      ·
                        have h := wp_neg h q
                        exact hj245 _ h _ l0 l1 l2 l3 l4
                      ·
                        have h := wp_pos h q
                        refine rs_aldn wi_456_219 l0 ?_
                        refine dq_gr wi_456_220 wf_456_274 tf_174_89 ?_
                        refine rs_ild wi_456_223 l5 ?_
                        refine rs_aldn wi_456_225 l0 ?_
                        refine rs_ildn wi_456_226 l2 ?_
                        refine rs_aldn wi_456_227 l0 ?_
                        refine dq_gr wi_456_228 wf_456_274 tf_174_89 ?_
                        refine rs_ild wi_456_231 l5 ?_
                        obtain ⟨g52, h⟩ := wp_gd h
                        refine dq_iald wi_456_233 t_240 g52 ?_
                        refine rs_aldn wi_456_234 l0 ?_
                        refine dq_gr wi_456_235 wf_456_197 tf_174_53 ?_
                        refine rs_ild wi_456_238 l4 ?_
                        obtain ⟨g53, h⟩ := wp_gd h
                        refine dq_iald wi_456_240 t_215 g53 ?_
                        refine rs_V wi_456_241 wc_456_730 rfl (dq_isa tf_174_0 wa_15_391) (Nat.le_trans (by decide) hF) (ml_le wm_391 (Nat.le_trans (by decide) hLo)) rfl (sp_391 hw (Nat.le_trans (by decide : 1 ≤ 3 - 1) (Nat.sub_le_sub_right hF 1)) (ml_sub wm_391 (Nat.le_trans (by decide : 23 ≤ 70 - 23) (Nat.sub_le_sub_right hLo 23))) (wp_bind h) (fun v54 h => rs_back1 ?_))
                        obtain ⟨g55, h⟩ := wp_gd h
                        obtain ⟨c56, e57, h⟩ := wp_lt h
                        refine dq_iast wi_456_244 t_240 g55 e57 ?_
                        exact hj245 _ h _ l0 l1 l2 l3 l4
                  ·
                    have h := wp_neg h q
                    refine rs_goto (tg := 259) wi_456_179 ⟨by decide, by decide⟩ ?_
                    exact hj259 _ h _ l0 l1 l2 l3 l4
                refine rs_iceq (tg := 169) wi_456_145 ⟨by decide, by decide⟩ (fun q => ?_) (fun q => ?_)
                ·
                  have h := wp_pos h q
                  exact hj169 _ h _ l0 l1 l2 l3 l4
                ·
                  have h := wp_neg h q
                  refine rs_aldn wi_456_148 l0 ?_
                  refine dq_gr wi_456_149 wf_456_185 tf_174_49 ?_
                  refine rs_ild wi_456_152 l4 ?_
                  obtain ⟨g58, h⟩ := wp_gd h
                  refine dq_iald wi_456_154 t_211 g58 ?_
                  refine rs_pure wi_456_155 rfl ?_
                  refine rs_topi (v := 27) (by decide) ?_
                  refine rs_iceq (tg := 169) wi_456_157 ⟨by decide, by decide⟩ (fun q => ?_) (fun q => ?_)
                  ·
                    have h := wp_pos h q
                    exact hj169 _ h _ l0 l1 l2 l3 l4
                  ·
                    have h := wp_neg h q
                    refine rs_aldn wi_456_160 l0 ?_
                    refine rs_ild wi_456_161 l4 ?_
                    refine rs_pure wi_456_163 rfl ?_
                    refine rs_topi (v := 1) (by decide) ?_
                    refine rs_pure wi_456_164 rfl ?_
                    refine rs_ildn wi_456_165 l2 ?_
                    refine rs_V wi_456_166 wc_456_847 rfl (dq_isa tf_174_0 wa_15_455) (Nat.le_trans (by decide) hF) (ml_le wm_455 (Nat.le_trans (by decide) hLo)) rfl (sp_455 hw (Nat.le_trans (by decide : 2 ≤ 3 - 1) (Nat.sub_le_sub_right hF 1)) (ml_sub wm_455 (Nat.le_trans (by decide : 46 ≤ 70 - 24) (Nat.sub_le_sub_right hLo 24))) (wp_bind h) (fun r59 h => rs_back0 ?_))
                    exact hj169 _ h _ l0 l1 l2 l3 l4
            ·
              have h := wp_pos h q
              refine rs_goto (tg := 259) wi_456_90 ⟨by decide, by decide⟩ ?_
              exact hj259 _ h _ l0 l1 l2 l3 l4
        ·
          intro x60 h lv l0 l1 l2 l3
          refine rs_goto (tg := 52) wi_456_265 ⟨by decide, by decide⟩ ?_
          exact h _ l0 l1 l2 l3
    ·
      intro x61 h lv
      exact rs_vret wi_456_268 wr_456 (hQ x61 h)
theorem wf_457_173 : rx_ft (rt_P sc fm) 457 173 = some (15, 45) := (by decide +kernel : rt_ft 457 173 = some (15, 45))
theorem wf_457_185 : rx_ft (rt_P sc fm) 457 185 = some (15, 49) := (by decide +kernel : rt_ft 457 185 = some (15, 49))
theorem wf_457_194 : rx_ft (rt_P sc fm) 457 194 = some (15, 52) := (by decide +kernel : rt_ft 457 194 = some (15, 52))
theorem wf_457_197 : rx_ft (rt_P sc fm) 457 197 = some (15, 53) := (by decide +kernel : rt_ft 457 197 = some (15, 53))
theorem wi_457_0 : ri (rt_P sc fm) 457 0 (.aload_n 0) (1) := ri_of (by decide +kernel) rfl
theorem wi_457_1 : ri (rt_P sc fm) 457 1 (.getfield 185) (4) := ri_of (by decide +kernel) rfl
theorem wi_457_11 : ri (rt_P sc fm) 457 11 (.aload_n 0) (12) := ri_of (by decide +kernel) rfl
theorem wi_457_12 : ri (rt_P sc fm) 457 12 (.getfield 185) (15) := ri_of (by decide +kernel) rfl
theorem wi_457_15 : ri (rt_P sc fm) 457 15 (.iload_n 1) (16) := ri_of (by decide +kernel) rfl
theorem wi_457_16 : ri (rt_P sc fm) 457 16 (.iaload) (17) := ri_of (by decide +kernel) rfl
theorem wi_457_17 : ri (rt_P sc fm) 457 17 (.bipush 21) (19) := ri_of (by decide +kernel) rfl
theorem wi_457_19 : ri (rt_P sc fm) 457 19 (.if_icmp .ne 7) (22) := ri_of (by decide +kernel) rfl
theorem wi_457_22 : ri (rt_P sc fm) 457 22 (.iconst 1) (23) := ri_of (by decide +kernel) rfl
theorem wi_457_23 : ri (rt_P sc fm) 457 23 (.goto 39) (26) := ri_of (by decide +kernel) rfl
theorem wi_457_26 : ri (rt_P sc fm) 457 26 (.aload_n 0) (27) := ri_of (by decide +kernel) rfl
theorem wi_457_27 : ri (rt_P sc fm) 457 27 (.getfield 185) (30) := ri_of (by decide +kernel) rfl
theorem wi_457_30 : ri (rt_P sc fm) 457 30 (.iload_n 1) (31) := ri_of (by decide +kernel) rfl
theorem wi_457_31 : ri (rt_P sc fm) 457 31 (.iaload) (32) := ri_of (by decide +kernel) rfl
theorem wi_457_32 : ri (rt_P sc fm) 457 32 (.bipush 20) (34) := ri_of (by decide +kernel) rfl
theorem wi_457_34 : ri (rt_P sc fm) 457 34 (.if_icmp .ne 27) (37) := ri_of (by decide +kernel) rfl
theorem wi_457_37 : ri (rt_P sc fm) 457 37 (.aload_n 0) (38) := ri_of (by decide +kernel) rfl
theorem wi_457_38 : ri (rt_P sc fm) 457 38 (.getfield 173) (41) := ri_of (by decide +kernel) rfl
theorem wi_457_4 : ri (rt_P sc fm) 457 4 (.iload_n 1) (5) := ri_of (by decide +kernel) rfl
theorem wi_457_41 : ri (rt_P sc fm) 457 41 (.bipush 8) (43) := ri_of (by decide +kernel) rfl
theorem wi_457_43 : ri (rt_P sc fm) 457 43 (.aload_n 0) (44) := ri_of (by decide +kernel) rfl
theorem wi_457_44 : ri (rt_P sc fm) 457 44 (.getfield 194) (47) := ri_of (by decide +kernel) rfl
theorem wi_457_47 : ri (rt_P sc fm) 457 47 (.iload_n 1) (48) := ri_of (by decide +kernel) rfl
theorem wi_457_48 : ri (rt_P sc fm) 457 48 (.iaload) (49) := ri_of (by decide +kernel) rfl
theorem wi_457_49 : ri (rt_P sc fm) 457 49 (.imul) (50) := ri_of (by decide +kernel) rfl
theorem wi_457_5 : ri (rt_P sc fm) 457 5 (.iaload) (6) := ri_of (by decide +kernel) rfl
theorem wi_457_50 : ri (rt_P sc fm) 457 50 (.aload_n 0) (51) := ri_of (by decide +kernel) rfl
theorem wi_457_51 : ri (rt_P sc fm) 457 51 (.getfield 197) (54) := ri_of (by decide +kernel) rfl
theorem wi_457_54 : ri (rt_P sc fm) 457 54 (.iload_n 1) (55) := ri_of (by decide +kernel) rfl
theorem wi_457_55 : ri (rt_P sc fm) 457 55 (.iaload) (56) := ri_of (by decide +kernel) rfl
theorem wi_457_56 : ri (rt_P sc fm) 457 56 (.iadd) (57) := ri_of (by decide +kernel) rfl
theorem wi_457_57 : ri (rt_P sc fm) 457 57 (.iaload) (58) := ri_of (by decide +kernel) rfl
theorem wi_457_58 : ri (rt_P sc fm) 457 58 (.goto 4) (61) := ri_of (by decide +kernel) rfl
theorem wi_457_6 : ri (rt_P sc fm) 457 6 (.bipush 19) (8) := ri_of (by decide +kernel) rfl
theorem wi_457_61 : ri (rt_P sc fm) 457 61 (.iconst 0) (62) := ri_of (by decide +kernel) rfl
theorem wi_457_62 : ri (rt_P sc fm) 457 62 (.ireturn) (63) := ri_of (by decide +kernel) rfl
theorem wi_457_8 : ri (rt_P sc fm) 457 8 (.if_icmp .eq 14) (11) := ri_of (by decide +kernel) rfl
theorem wr_457 : rx_rt (rt_P sc fm) 457 = (some FieldType.int) := (by decide +kernel : rt_rt 457 = (some FieldType.int))
/-- MarkHouseModel.wants(I)I -/
def d_457 (n : Nat) (a1 : Int32) (c : cS) : Option (Int32) :=
  if ib a1 3840 then
  jn (fun p2 : Int32 =>
    some p2)
  (fun j62 =>
  jn (fun p3 : Unit =>
    j62 1)
  (fun j22 =>
  if (c.1 211 (ix a1)) = 19 then
    j22 ()
  else
    if ib a1 3840 then
    if (c.1 211 (ix a1)) = 21 then
      j22 ()
    else
      if ib a1 3840 then
      if (c.1 211 (ix a1)) = 20 then
        if ib a1 3840 then
        if ib a1 3840 then
        if ib ((8 * (c.1 214 (ix a1))) + (c.1 215 (ix a1))) 96 then
        j62 (c.1 207 (ix ((8 * (c.1 214 (ix a1))) + (c.1 215 (ix a1)))))
        else none
        else none
        else none
      else
        j62 0
      else none
    else none))
  else none
theorem sp_457 {F Lo n : Nat} {a1 : Int32} {c y : cS} {w : cW} {K : Int32 → Prop} {Q : ((Option Value) ⊕ String) → List va_E → Prop} (hw : rOK fm w) (hF : 0 ≤ F) (hLo : 0 ≤ Lo)  (h : wp (d_457 n a1 c) K) (hQ : ∀ r, K r → Q (.inl (some (.int r))) (hq false c y w)) : rs (rt_P sc fm) 457 F Lo 0 [(0, .ref 174), (1, .int a1)] [] (hq false c y w) Q := by
  unfold d_457 at h
  obtain ⟨lv, elv⟩ : ∃ lv : rx_L, lv = [(0, .ref 174), (1, .int a1)] := ⟨_, rfl⟩
  rw [← elv]
  have l0 : rx_ld lv 0 = some (.ref 174) := by rw [elv]; rfl
  have l1 : rx_ld lv 1 = some (.int a1) := by rw [elv]; rfl
  refine rs_aldn wi_457_0 l0 ?_
  refine dq_gr wi_457_1 wf_457_185 tf_174_49 ?_
  refine rs_ildn wi_457_4 l1 ?_
  obtain ⟨g1, h⟩ := wp_gd h
  refine dq_iald wi_457_5 t_211 g1 ?_
  refine rs_pure wi_457_6 rfl ?_
  refine rs_topi (v := 19) (by decide) ?_
  refine wp_jn (B := fun p2 : Int32 => ∀ lv, rs (rt_P sc fm) 457 F Lo 62 lv [.int p2] (hq false c y w) Q) h (fun p2 h lv => ?_) (fun j62 hj62 h => ?_)
  ·
    exact rs_iret wi_457_62 wr_457 rfl (hQ p2 h)
  refine wp_jn (B := fun p3 : Unit => ∀ lv, rs (rt_P sc fm) 457 F Lo 22 lv [] (hq false c y w) Q) h (fun p3 h lv => ?_) (fun j22 hj22 h => ?_)
  ·
    refine rs_pure wi_457_22 rfl ?_
    refine rs_topi (v := 1) (by decide) ?_
    refine rs_goto (tg := 62) wi_457_23 ⟨by decide, by decide⟩ ?_
    exact hj62 _ h _
  refine rs_iceq (tg := 22) wi_457_8 ⟨by decide, by decide⟩ (fun q => ?_) (fun q => ?_)
  ·
    have h := wp_pos h q
    exact hj22 _ h _
  ·
    have h := wp_neg h q
    refine rs_aldn wi_457_11 l0 ?_
    refine dq_gr wi_457_12 wf_457_185 tf_174_49 ?_
    refine rs_ildn wi_457_15 l1 ?_
    obtain ⟨g4, h⟩ := wp_gd h
    refine dq_iald wi_457_16 t_211 g4 ?_
    refine rs_pure wi_457_17 rfl ?_
    refine rs_topi (v := 21) (by decide) ?_
    refine rs_icne (tg := 26) wi_457_19 ⟨by decide, by decide⟩ (fun q => ?_) (fun q => ?_)
    ·
      have h := wp_neg h q
      refine rs_aldn wi_457_26 l0 ?_
      refine dq_gr wi_457_27 wf_457_185 tf_174_49 ?_
      refine rs_ildn wi_457_30 l1 ?_
      obtain ⟨g5, h⟩ := wp_gd h
      refine dq_iald wi_457_31 t_211 g5 ?_
      refine rs_pure wi_457_32 rfl ?_
      refine rs_topi (v := 20) (by decide) ?_
      refine rs_icne (tg := 61) wi_457_34 ⟨by decide, by decide⟩ (fun q => ?_) (fun q => ?_)
      ·
        have h := wp_neg h q
        refine rs_pure wi_457_61 rfl ?_
        refine rs_topi (v := 0) (by decide) ?_
        exact hj62 _ h _
      ·
        have h := wp_pos h q
        refine rs_aldn wi_457_37 l0 ?_
        refine dq_gr wi_457_38 wf_457_173 tf_174_45 ?_
        refine rs_pure wi_457_41 rfl ?_
        refine rs_topi (v := 8) (by decide) ?_
        refine rs_aldn wi_457_43 l0 ?_
        refine dq_gr wi_457_44 wf_457_194 tf_174_52 ?_
        refine rs_ildn wi_457_47 l1 ?_
        obtain ⟨g6, h⟩ := wp_gd h
        refine dq_iald wi_457_48 t_214 g6 ?_
        refine rs_pure wi_457_49 rfl ?_
        refine rs_aldn wi_457_50 l0 ?_
        refine dq_gr wi_457_51 wf_457_197 tf_174_53 ?_
        refine rs_ildn wi_457_54 l1 ?_
        obtain ⟨g7, h⟩ := wp_gd h
        refine dq_iald wi_457_55 t_215 g7 ?_
        refine rs_pure wi_457_56 rfl ?_
        obtain ⟨g8, h⟩ := wp_gd h
        refine dq_iald wi_457_57 t_207 g8 ?_
        refine rs_goto (tg := 62) wi_457_58 ⟨by decide, by decide⟩ ?_
        exact hj62 _ h _
    ·
      have h := wp_pos h q
      exact hj22 _ h _
theorem wa_15_457 : rz_cn 15 (rx_yn (rt_P sc fm) 457).cls = true := (by decide +kernel : rz_cn 15 (rt_yn 457).cls = true)
theorem wc_459_853 : rx_ct (rt_P sc fm) 459 853 = some (0, 457, 1) := (by decide +kernel : rt_ct 459 853 = some (0, 457, 1))
theorem wf_459_185 : rx_ft (rt_P sc fm) 459 185 = some (15, 49) := (by decide +kernel : rt_ft 459 185 = some (15, 49))
theorem wi_459_0 : ri (rt_P sc fm) 459 0 (.aload_n 0) (1) := ri_of (by decide +kernel) rfl
theorem wi_459_1 : ri (rt_P sc fm) 459 1 (.getfield 185) (4) := ri_of (by decide +kernel) rfl
theorem wi_459_11 : ri (rt_P sc fm) 459 11 (.aload_n 0) (12) := ri_of (by decide +kernel) rfl
theorem wi_459_12 : ri (rt_P sc fm) 459 12 (.iload_n 1) (13) := ri_of (by decide +kernel) rfl
theorem wi_459_13 : ri (rt_P sc fm) 459 13 (.invokevirtual 853) (16) := ri_of (by decide +kernel) rfl
theorem wi_459_16 : ri (rt_P sc fm) 459 16 (.iconst 1) (17) := ri_of (by decide +kernel) rfl
theorem wi_459_17 : ri (rt_P sc fm) 459 17 (.isub) (18) := ri_of (by decide +kernel) rfl
theorem wi_459_18 : ri (rt_P sc fm) 459 18 (.iload_n 2) (19) := ri_of (by decide +kernel) rfl
theorem wi_459_19 : ri (rt_P sc fm) 459 19 (.isub) (20) := ri_of (by decide +kernel) rfl
theorem wi_459_20 : ri (rt_P sc fm) 459 20 (.goto 4) (23) := ri_of (by decide +kernel) rfl
theorem wi_459_23 : ri (rt_P sc fm) 459 23 (.iconst 0) (24) := ri_of (by decide +kernel) rfl
theorem wi_459_24 : ri (rt_P sc fm) 459 24 (.ireturn) (25) := ri_of (by decide +kernel) rfl
theorem wi_459_4 : ri (rt_P sc fm) 459 4 (.iload_n 1) (5) := ri_of (by decide +kernel) rfl
theorem wi_459_5 : ri (rt_P sc fm) 459 5 (.iaload) (6) := ri_of (by decide +kernel) rfl
theorem wi_459_6 : ri (rt_P sc fm) 459 6 (.bipush 20) (8) := ri_of (by decide +kernel) rfl
theorem wi_459_8 : ri (rt_P sc fm) 459 8 (.if_icmp .ne 15) (11) := ri_of (by decide +kernel) rfl
theorem wm_457 : rx_ml (rt_P sc fm) 457 = 2 := (by decide +kernel : rt_ml 457 = 2)
theorem wr_459 : rx_rt (rt_P sc fm) 459 = (some FieldType.int) := (by decide +kernel : rt_rt 459 = (some FieldType.int))
/-- MarkHouseModel.fromTop(II)I -/
def d_459 (n : Nat) (a1 : Int32) (a2 : Int32) (c : cS) : Option (Int32) :=
  if ib a1 3840 then
  jn (fun p2 : Int32 =>
    some p2)
  (fun j24 =>
  if (c.1 211 (ix a1)) = 20 then
    Option.bind (d_457 n a1 c) (fun v3 =>
    j24 ((v3 - 1) - a2))
  else
    j24 0)
  else none
theorem sp_459 {F Lo n : Nat} {a1 : Int32} {a2 : Int32} {c y : cS} {w : cW} {K : Int32 → Prop} {Q : ((Option Value) ⊕ String) → List va_E → Prop} (hw : rOK fm w) (hF : 1 ≤ F) (hLo : 21 ≤ Lo)  (h : wp (d_459 n a1 a2 c) K) (hQ : ∀ r, K r → Q (.inl (some (.int r))) (hq false c y w)) : rs (rt_P sc fm) 459 F Lo 0 [(0, .ref 174), (1, .int a1), (2, .int a2)] [] (hq false c y w) Q := by
  unfold d_459 at h
  obtain ⟨lv, elv⟩ : ∃ lv : rx_L, lv = [(0, .ref 174), (1, .int a1), (2, .int a2)] := ⟨_, rfl⟩
  rw [← elv]
  have l0 : rx_ld lv 0 = some (.ref 174) := by rw [elv]; rfl
  have l1 : rx_ld lv 1 = some (.int a1) := by rw [elv]; rfl
  have l2 : rx_ld lv 2 = some (.int a2) := by rw [elv]; rfl
  refine rs_aldn wi_459_0 l0 ?_
  refine dq_gr wi_459_1 wf_459_185 tf_174_49 ?_
  refine rs_ildn wi_459_4 l1 ?_
  obtain ⟨g1, h⟩ := wp_gd h
  refine dq_iald wi_459_5 t_211 g1 ?_
  refine rs_pure wi_459_6 rfl ?_
  refine rs_topi (v := 20) (by decide) ?_
  refine wp_jn (B := fun p2 : Int32 => ∀ lv, rs (rt_P sc fm) 459 F Lo 24 lv [.int p2] (hq false c y w) Q) h (fun p2 h lv => ?_) (fun j24 hj24 h => ?_)
  ·
    exact rs_iret wi_459_24 wr_459 rfl (hQ p2 h)
  refine rs_icne (tg := 23) wi_459_8 ⟨by decide, by decide⟩ (fun q => ?_) (fun q => ?_)
  ·
    have h := wp_neg h q
    refine rs_pure wi_459_23 rfl ?_
    refine rs_topi (v := 0) (by decide) ?_
    exact hj24 _ h _
  ·
    have h := wp_pos h q
    refine rs_aldn wi_459_11 l0 ?_
    refine rs_ildn wi_459_12 l1 ?_
    refine rs_V wi_459_13 wc_459_853 rfl (dq_isa tf_174_0 wa_15_457) (Nat.le_trans (by decide) hF) (ml_le wm_457 (Nat.le_trans (by decide) hLo)) rfl (sp_457 hw (Nat.le_trans (by decide : 0 ≤ 1 - 1) (Nat.sub_le_sub_right hF 1)) (ml_sub wm_457 (Nat.le_trans (by decide : 0 ≤ 21 - 21) (Nat.sub_le_sub_right hLo 21))) (wp_bind h) (fun v3 h => rs_back1 ?_))
    refine rs_pure wi_459_16 rfl ?_
    refine rs_topi (v := 1) (by decide) ?_
    refine rs_pure wi_459_17 rfl ?_
    refine rs_ildn wi_459_18 l2 ?_
    refine rs_pure wi_459_19 rfl ?_
    refine rs_goto (tg := 24) wi_459_20 ⟨by decide, by decide⟩ ?_
    exact hj24 _ h _
theorem wc_458_661 : rx_ct (rt_P sc fm) 458 661 = some (1, 422, 1) := (by decide +kernel : rt_ct 458 661 = some (1, 422, 1))
theorem wc_458_838 : rx_ct (rt_P sc fm) 458 838 = some (1, 451, 2) := (by decide +kernel : rt_ct 458 838 = some (1, 451, 2))
theorem wf_458_185 : rx_ft (rt_P sc fm) 458 185 = some (15, 49) := (by decide +kernel : rt_ft 458 185 = some (15, 49))
theorem wf_458_194 : rx_ft (rt_P sc fm) 458 194 = some (15, 52) := (by decide +kernel : rt_ft 458 194 = some (15, 52))
theorem wf_458_197 : rx_ft (rt_P sc fm) 458 197 = some (15, 53) := (by decide +kernel : rt_ft 458 197 = some (15, 53))
theorem wi_458_0 : ri (rt_P sc fm) 458 0 (.aload_n 0) (1) := ri_of (by decide +kernel) rfl
theorem wi_458_1 : ri (rt_P sc fm) 458 1 (.getfield 185) (4) := ri_of (by decide +kernel) rfl
theorem wi_458_11 : ri (rt_P sc fm) 458 11 (.aload_n 0) (12) := ri_of (by decide +kernel) rfl
theorem wi_458_12 : ri (rt_P sc fm) 458 12 (.getfield 194) (15) := ri_of (by decide +kernel) rfl
theorem wi_458_15 : ri (rt_P sc fm) 458 15 (.iload_n 2) (16) := ri_of (by decide +kernel) rfl
theorem wi_458_16 : ri (rt_P sc fm) 458 16 (.iaload) (17) := ri_of (by decide +kernel) rfl
theorem wi_458_17 : ri (rt_P sc fm) 458 17 (.aload_n 0) (18) := ri_of (by decide +kernel) rfl
theorem wi_458_18 : ri (rt_P sc fm) 458 18 (.getfield 197) (21) := ri_of (by decide +kernel) rfl
theorem wi_458_21 : ri (rt_P sc fm) 458 21 (.iload_n 2) (22) := ri_of (by decide +kernel) rfl
theorem wi_458_22 : ri (rt_P sc fm) 458 22 (.iaload) (23) := ri_of (by decide +kernel) rfl
theorem wi_458_23 : ri (rt_P sc fm) 458 23 (.invokestatic 838) (26) := ri_of (by decide +kernel) rfl
theorem wi_458_26 : ri (rt_P sc fm) 458 26 (.goto 44) (29) := ri_of (by decide +kernel) rfl
theorem wi_458_29 : ri (rt_P sc fm) 458 29 (.aload_n 0) (30) := ri_of (by decide +kernel) rfl
theorem wi_458_30 : ri (rt_P sc fm) 458 30 (.getfield 185) (33) := ri_of (by decide +kernel) rfl
theorem wi_458_33 : ri (rt_P sc fm) 458 33 (.iload_n 2) (34) := ri_of (by decide +kernel) rfl
theorem wi_458_34 : ri (rt_P sc fm) 458 34 (.iaload) (35) := ri_of (by decide +kernel) rfl
theorem wi_458_35 : ri (rt_P sc fm) 458 35 (.bipush 21) (37) := ri_of (by decide +kernel) rfl
theorem wi_458_37 : ri (rt_P sc fm) 458 37 (.if_icmp .ne 10) (40) := ri_of (by decide +kernel) rfl
theorem wi_458_4 : ri (rt_P sc fm) 458 4 (.iload_n 2) (5) := ri_of (by decide +kernel) rfl
theorem wi_458_40 : ri (rt_P sc fm) 458 40 (.iload_n 1) (41) := ri_of (by decide +kernel) rfl
theorem wi_458_41 : ri (rt_P sc fm) 458 41 (.invokestatic 661) (44) := ri_of (by decide +kernel) rfl
theorem wi_458_44 : ri (rt_P sc fm) 458 44 (.goto 26) (47) := ri_of (by decide +kernel) rfl
theorem wi_458_47 : ri (rt_P sc fm) 458 47 (.bipush 8) (49) := ri_of (by decide +kernel) rfl
theorem wi_458_49 : ri (rt_P sc fm) 458 49 (.aload_n 0) (50) := ri_of (by decide +kernel) rfl
theorem wi_458_5 : ri (rt_P sc fm) 458 5 (.iaload) (6) := ri_of (by decide +kernel) rfl
theorem wi_458_50 : ri (rt_P sc fm) 458 50 (.getfield 194) (53) := ri_of (by decide +kernel) rfl
theorem wi_458_53 : ri (rt_P sc fm) 458 53 (.iload_n 2) (54) := ri_of (by decide +kernel) rfl
theorem wi_458_54 : ri (rt_P sc fm) 458 54 (.iaload) (55) := ri_of (by decide +kernel) rfl
theorem wi_458_55 : ri (rt_P sc fm) 458 55 (.imul) (56) := ri_of (by decide +kernel) rfl
theorem wi_458_56 : ri (rt_P sc fm) 458 56 (.aload_n 0) (57) := ri_of (by decide +kernel) rfl
theorem wi_458_57 : ri (rt_P sc fm) 458 57 (.getfield 197) (60) := ri_of (by decide +kernel) rfl
theorem wi_458_6 : ri (rt_P sc fm) 458 6 (.bipush 19) (8) := ri_of (by decide +kernel) rfl
theorem wi_458_60 : ri (rt_P sc fm) 458 60 (.iload_n 2) (61) := ri_of (by decide +kernel) rfl
theorem wi_458_61 : ri (rt_P sc fm) 458 61 (.iaload) (62) := ri_of (by decide +kernel) rfl
theorem wi_458_62 : ri (rt_P sc fm) 458 62 (.iadd) (63) := ri_of (by decide +kernel) rfl
theorem wi_458_63 : ri (rt_P sc fm) 458 63 (.invokestatic 661) (66) := ri_of (by decide +kernel) rfl
theorem wi_458_66 : ri (rt_P sc fm) 458 66 (.iconst 1) (67) := ri_of (by decide +kernel) rfl
theorem wi_458_67 : ri (rt_P sc fm) 458 67 (.iadd) (68) := ri_of (by decide +kernel) rfl
theorem wi_458_68 : ri (rt_P sc fm) 458 68 (.iload_n 3) (69) := ri_of (by decide +kernel) rfl
theorem wi_458_69 : ri (rt_P sc fm) 458 69 (.iadd) (70) := ri_of (by decide +kernel) rfl
theorem wi_458_70 : ri (rt_P sc fm) 458 70 (.ireturn) (71) := ri_of (by decide +kernel) rfl
theorem wi_458_8 : ri (rt_P sc fm) 458 8 (.if_icmp .ne 21) (11) := ri_of (by decide +kernel) rfl
theorem wr_458 : rx_rt (rt_P sc fm) 458 = (some FieldType.int) := (by decide +kernel : rt_rt 458 = (some FieldType.int))
/-- MarkHouseModel.wantedAt(III)I -/
def d_458 (n : Nat) (a1 : Int32) (a2 : Int32) (a3 : Int32) (c : cS) : Option (Int32) :=
  if ib a2 3840 then
  jn (fun p2 : Int32 =>
    some p2)
  (fun j70 =>
  if (c.1 211 (ix a2)) = 19 then
    if ib a2 3840 then
    if ib a2 3840 then
    Option.bind (d_451 n (c.1 214 (ix a2)) (c.1 215 (ix a2))) (fun v10 =>
    j70 v10)
    else none
    else none
  else
    if ib a2 3840 then
    if (c.1 211 (ix a2)) = 21 then
      Option.bind (d_422 n a1) (fun v7 =>
      j70 v7)
    else
      if ib a2 3840 then
      if ib a2 3840 then
      Option.bind (d_422 n ((8 * (c.1 214 (ix a2))) + (c.1 215 (ix a2)))) (fun v6 =>
      j70 ((v6 + 1) + a3))
      else none
      else none
    else none)
  else none
theorem sp_458 {F Lo n : Nat} {a1 : Int32} {a2 : Int32} {a3 : Int32} {c y : cS} {w : cW} {K : Int32 → Prop} {Q : ((Option Value) ⊕ String) → List va_E → Prop} (hw : rOK fm w) (hF : 1 ≤ F) (hLo : 21 ≤ Lo)  (h : wp (d_458 n a1 a2 a3 c) K) (hQ : ∀ r, K r → Q (.inl (some (.int r))) (hq false c y w)) : rs (rt_P sc fm) 458 F Lo 0 [(0, .ref 174), (1, .int a1), (2, .int a2), (3, .int a3)] [] (hq false c y w) Q := by
  unfold d_458 at h
  obtain ⟨lv, elv⟩ : ∃ lv : rx_L, lv = [(0, .ref 174), (1, .int a1), (2, .int a2), (3, .int a3)] := ⟨_, rfl⟩
  rw [← elv]
  have l0 : rx_ld lv 0 = some (.ref 174) := by rw [elv]; rfl
  have l1 : rx_ld lv 1 = some (.int a1) := by rw [elv]; rfl
  have l2 : rx_ld lv 2 = some (.int a2) := by rw [elv]; rfl
  have l3 : rx_ld lv 3 = some (.int a3) := by rw [elv]; rfl
  refine rs_aldn wi_458_0 l0 ?_
  refine dq_gr wi_458_1 wf_458_185 tf_174_49 ?_
  refine rs_ildn wi_458_4 l2 ?_
  obtain ⟨g1, h⟩ := wp_gd h
  refine dq_iald wi_458_5 t_211 g1 ?_
  refine rs_pure wi_458_6 rfl ?_
  refine rs_topi (v := 19) (by decide) ?_
  refine wp_jn (B := fun p2 : Int32 => ∀ lv, rs (rt_P sc fm) 458 F Lo 70 lv [.int p2] (hq false c y w) Q) h (fun p2 h lv => ?_) (fun j70 hj70 h => ?_)
  ·
    exact rs_iret wi_458_70 wr_458 rfl (hQ p2 h)
  refine rs_icne (tg := 29) wi_458_8 ⟨by decide, by decide⟩ (fun q => ?_) (fun q => ?_)
  ·
    have h := wp_neg h q
    refine rs_aldn wi_458_29 l0 ?_
    refine dq_gr wi_458_30 wf_458_185 tf_174_49 ?_
    refine rs_ildn wi_458_33 l2 ?_
    obtain ⟨g3, h⟩ := wp_gd h
    refine dq_iald wi_458_34 t_211 g3 ?_
    refine rs_pure wi_458_35 rfl ?_
    refine rs_topi (v := 21) (by decide) ?_
    refine rs_icne (tg := 47) wi_458_37 ⟨by decide, by decide⟩ (fun q => ?_) (fun q => ?_)
    ·
      have h := wp_neg h q
      refine rs_pure wi_458_47 rfl ?_
      refine rs_topi (v := 8) (by decide) ?_
      refine rs_aldn wi_458_49 l0 ?_
      refine dq_gr wi_458_50 wf_458_194 tf_174_52 ?_
      refine rs_ildn wi_458_53 l2 ?_
      obtain ⟨g4, h⟩ := wp_gd h
      refine dq_iald wi_458_54 t_214 g4 ?_
      refine rs_pure wi_458_55 rfl ?_
      refine rs_aldn wi_458_56 l0 ?_
      refine dq_gr wi_458_57 wf_458_197 tf_174_53 ?_
      refine rs_ildn wi_458_60 l2 ?_
      obtain ⟨g5, h⟩ := wp_gd h
      refine dq_iald wi_458_61 t_215 g5 ?_
      refine rs_pure wi_458_62 rfl ?_
      refine rs_S wi_458_63 wc_458_661 (Or.inl rfl) rfl (Nat.le_trans (by decide) hF) (ml_le wm_422 (Nat.le_trans (by decide) hLo)) rfl (sp_422 (Nat.le_trans (by decide : 0 ≤ 1 - 1) (Nat.sub_le_sub_right hF 1)) (ml_sub wm_422 (Nat.le_trans (by decide : 0 ≤ 21 - 20) (Nat.sub_le_sub_right hLo 20))) (wp_bind h) (fun v6 h => rs_back1 ?_))
      refine rs_pure wi_458_66 rfl ?_
      refine rs_topi (v := 1) (by decide) ?_
      refine rs_pure wi_458_67 rfl ?_
      refine rs_ildn wi_458_68 l3 ?_
      refine rs_pure wi_458_69 rfl ?_
      exact hj70 _ h _
    ·
      have h := wp_pos h q
      refine rs_ildn wi_458_40 l1 ?_
      refine rs_S wi_458_41 wc_458_661 (Or.inl rfl) rfl (Nat.le_trans (by decide) hF) (ml_le wm_422 (Nat.le_trans (by decide) hLo)) rfl (sp_422 (Nat.le_trans (by decide : 0 ≤ 1 - 1) (Nat.sub_le_sub_right hF 1)) (ml_sub wm_422 (Nat.le_trans (by decide : 0 ≤ 21 - 20) (Nat.sub_le_sub_right hLo 20))) (wp_bind h) (fun v7 h => rs_back1 ?_))
      refine rs_goto (tg := 70) wi_458_44 ⟨by decide, by decide⟩ ?_
      exact hj70 _ h _
  ·
    have h := wp_pos h q
    refine rs_aldn wi_458_11 l0 ?_
    refine dq_gr wi_458_12 wf_458_194 tf_174_52 ?_
    refine rs_ildn wi_458_15 l2 ?_
    obtain ⟨g8, h⟩ := wp_gd h
    refine dq_iald wi_458_16 t_214 g8 ?_
    refine rs_aldn wi_458_17 l0 ?_
    refine dq_gr wi_458_18 wf_458_197 tf_174_53 ?_
    refine rs_ildn wi_458_21 l2 ?_
    obtain ⟨g9, h⟩ := wp_gd h
    refine dq_iald wi_458_22 t_215 g9 ?_
    refine rs_S wi_458_23 wc_458_838 (Or.inl rfl) rfl (Nat.le_trans (by decide) hF) (ml_le wm_451 (Nat.le_trans (by decide) hLo)) rfl (sp_451 (Nat.le_trans (by decide : 0 ≤ 1 - 1) (Nat.sub_le_sub_right hF 1)) (ml_sub wm_451 (Nat.le_trans (by decide : 0 ≤ 21 - 21) (Nat.sub_le_sub_right hLo 21))) (wp_bind h) (fun v10 h => rs_back1 ?_))
    refine rs_goto (tg := 70) wi_458_26 ⟨by decide, by decide⟩ ?_
    exact hj70 _ h _
theorem t_241 : ta false 241 0 15360 := ⟨rfl, by decide, by decide⟩
theorem t_242 : ta false 242 0 15360 := ⟨rfl, by decide, by decide⟩
theorem t_243 : ta false 243 0 15360 := ⟨rfl, by decide, by decide⟩
theorem t_244 : ta false 244 0 15360 := ⟨rfl, by decide, by decide⟩
theorem t_245 : ta false 245 0 15360 := ⟨rfl, by decide, by decide⟩
theorem tf_174_91 : fo false 174 15 91 (.int 0) := ⟨_, rfl, rfl, by decide, by decide⟩
theorem tf_174_92 : fo false 174 15 92 (.ref 241) := ⟨_, rfl, rfl, by decide, by decide⟩
theorem tf_174_93 : fo false 174 15 93 (.ref 242) := ⟨_, rfl, rfl, by decide, by decide⟩
theorem tf_174_94 : fo false 174 15 94 (.ref 243) := ⟨_, rfl, rfl, by decide, by decide⟩
theorem tf_174_95 : fo false 174 15 95 (.ref 244) := ⟨_, rfl, rfl, by decide, by decide⟩
theorem tf_174_96 : fo false 174 15 96 (.ref 245) := ⟨_, rfl, rfl, by decide, by decide⟩
theorem wa_15_450 : rz_cn 15 (rx_yn (rt_P sc fm) 450).cls = true := (by decide +kernel : rz_cn 15 (rt_yn 450).cls = true)
theorem wa_15_456 : rz_cn 15 (rx_yn (rt_P sc fm) 456).cls = true := (by decide +kernel : rz_cn 15 (rt_yn 456).cls = true)
theorem wa_15_458 : rz_cn 15 (rx_yn (rt_P sc fm) 458).cls = true := (by decide +kernel : rz_cn 15 (rt_yn 458).cls = true)
theorem wa_15_459 : rz_cn 15 (rx_yn (rt_P sc fm) 459).cls = true := (by decide +kernel : rz_cn 15 (rt_yn 459).cls = true)
theorem wc_460_535 : rx_ct (rt_P sc fm) 460 535 = some (0, 387, 3) := (by decide +kernel : rt_ct 460 535 = some (0, 387, 3))
theorem wc_460_614 : rx_ct (rt_P sc fm) 460 614 = some (0, 105, 1) := (by decide +kernel : rt_ct 460 614 = some (0, 105, 1))
theorem wc_460_853 : rx_ct (rt_P sc fm) 460 853 = some (0, 457, 1) := (by decide +kernel : rt_ct 460 853 = some (0, 457, 1))
theorem wc_460_856 : rx_ct (rt_P sc fm) 460 856 = some (0, 450, 1) := (by decide +kernel : rt_ct 460 856 = some (0, 450, 1))
theorem wc_460_862 : rx_ct (rt_P sc fm) 460 862 = some (0, 456, 2) := (by decide +kernel : rt_ct 460 862 = some (0, 456, 2))
theorem wc_460_865 : rx_ct (rt_P sc fm) 460 865 = some (0, 459, 2) := (by decide +kernel : rt_ct 460 865 = some (0, 459, 2))
theorem wc_460_868 : rx_ct (rt_P sc fm) 460 868 = some (0, 458, 3) := (by decide +kernel : rt_ct 460 868 = some (0, 458, 3))
theorem wf_460_182 : rx_ft (rt_P sc fm) 460 182 = some (15, 48) := (by decide +kernel : rt_ft 460 182 = some (15, 48))
theorem wf_460_243 : rx_ft (rt_P sc fm) 460 243 = some (15, 70) := (by decide +kernel : rt_ft 460 243 = some (15, 70))
theorem wf_460_261 : rx_ft (rt_P sc fm) 460 261 = some (15, 85) := (by decide +kernel : rt_ft 460 261 = some (15, 85))
theorem wf_460_268 : rx_ft (rt_P sc fm) 460 268 = some (15, 87) := (by decide +kernel : rt_ft 460 268 = some (15, 87))
theorem wf_460_271 : rx_ft (rt_P sc fm) 460 271 = some (15, 88) := (by decide +kernel : rt_ft 460 271 = some (15, 88))
theorem wf_460_277 : rx_ft (rt_P sc fm) 460 277 = some (15, 92) := (by decide +kernel : rt_ft 460 277 = some (15, 92))
theorem wf_460_280 : rx_ft (rt_P sc fm) 460 280 = some (15, 93) := (by decide +kernel : rt_ft 460 280 = some (15, 93))
theorem wf_460_283 : rx_ft (rt_P sc fm) 460 283 = some (15, 94) := (by decide +kernel : rt_ft 460 283 = some (15, 94))
theorem wf_460_286 : rx_ft (rt_P sc fm) 460 286 = some (15, 95) := (by decide +kernel : rt_ft 460 286 = some (15, 95))
theorem wf_460_289 : rx_ft (rt_P sc fm) 460 289 = some (15, 96) := (by decide +kernel : rt_ft 460 289 = some (15, 96))
theorem wf_460_859 : rx_ft (rt_P sc fm) 460 859 = some (15, 91) := (by decide +kernel : rt_ft 460 859 = some (15, 91))
theorem wi_460_0 : ri (rt_P sc fm) 460 0 (.aload_n 0) (1) := ri_of (by decide +kernel) rfl
theorem wi_460_1 : ri (rt_P sc fm) 460 1 (.iload_n 1) (2) := ri_of (by decide +kernel) rfl
theorem wi_460_10 : ri (rt_P sc fm) 460 10 (.iconst 0) (11) := ri_of (by decide +kernel) rfl
theorem wi_460_100 : ri (rt_P sc fm) 460 100 (.isub) (101) := ri_of (by decide +kernel) rfl
theorem wi_460_101 : ri (rt_P sc fm) 460 101 (.aload_n 0) (102) := ri_of (by decide +kernel) rfl
theorem wi_460_102 : ri (rt_P sc fm) 460 102 (.iload 4) (104) := ri_of (by decide +kernel) rfl
theorem wi_460_104 : ri (rt_P sc fm) 460 104 (.iload 5) (106) := ri_of (by decide +kernel) rfl
theorem wi_460_106 : ri (rt_P sc fm) 460 106 (.invokevirtual 865) (109) := ri_of (by decide +kernel) rfl
theorem wi_460_109 : ri (rt_P sc fm) 460 109 (.isub) (110) := ri_of (by decide +kernel) rfl
theorem wi_460_11 : ri (rt_P sc fm) 460 11 (.istore_n 2) (12) := ri_of (by decide +kernel) rfl
theorem wi_460_110 : ri (rt_P sc fm) 460 110 (.iaload) (111) := ri_of (by decide +kernel) rfl
theorem wi_460_111 : ri (rt_P sc fm) 460 111 (.istore 6) (113) := ri_of (by decide +kernel) rfl
theorem wi_460_113 : ri (rt_P sc fm) 460 113 (.aload_n 0) (114) := ri_of (by decide +kernel) rfl
theorem wi_460_114 : ri (rt_P sc fm) 460 114 (.getfield 261) (117) := ri_of (by decide +kernel) rfl
theorem wi_460_117 : ri (rt_P sc fm) 460 117 (.aload_n 0) (118) := ri_of (by decide +kernel) rfl
theorem wi_460_118 : ri (rt_P sc fm) 460 118 (.iload_n 2) (119) := ri_of (by decide +kernel) rfl
theorem wi_460_119 : ri (rt_P sc fm) 460 119 (.iload 4) (121) := ri_of (by decide +kernel) rfl
theorem wi_460_12 : ri (rt_P sc fm) 460 12 (.iload_n 2) (13) := ri_of (by decide +kernel) rfl
theorem wi_460_121 : ri (rt_P sc fm) 460 121 (.iload 5) (123) := ri_of (by decide +kernel) rfl
theorem wi_460_123 : ri (rt_P sc fm) 460 123 (.invokevirtual 868) (126) := ri_of (by decide +kernel) rfl
theorem wi_460_126 : ri (rt_P sc fm) 460 126 (.iaload) (127) := ri_of (by decide +kernel) rfl
theorem wi_460_127 : ri (rt_P sc fm) 460 127 (.istore 7) (129) := ri_of (by decide +kernel) rfl
theorem wi_460_129 : ri (rt_P sc fm) 460 129 (.aload_n 0) (130) := ri_of (by decide +kernel) rfl
theorem wi_460_13 : ri (rt_P sc fm) 460 13 (.bipush 96) (15) := ri_of (by decide +kernel) rfl
theorem wi_460_130 : ri (rt_P sc fm) 460 130 (.iload_n 1) (131) := ri_of (by decide +kernel) rfl
theorem wi_460_131 : ri (rt_P sc fm) 460 131 (.iload 6) (133) := ri_of (by decide +kernel) rfl
theorem wi_460_133 : ri (rt_P sc fm) 460 133 (.iload 7) (135) := ri_of (by decide +kernel) rfl
theorem wi_460_135 : ri (rt_P sc fm) 460 135 (.invokevirtual 535) (138) := ri_of (by decide +kernel) rfl
theorem wi_460_138 : ri (rt_P sc fm) 460 138 (.ifCond .eq 6) (141) := ri_of (by decide +kernel) rfl
theorem wi_460_141 : ri (rt_P sc fm) 460 141 (.goto 66) (144) := ri_of (by decide +kernel) rfl
theorem wi_460_144 : ri (rt_P sc fm) 460 144 (.aload_n 0) (145) := ri_of (by decide +kernel) rfl
theorem wi_460_145 : ri (rt_P sc fm) 460 145 (.getfield 277) (148) := ri_of (by decide +kernel) rfl
theorem wi_460_148 : ri (rt_P sc fm) 460 148 (.aload_n 0) (149) := ri_of (by decide +kernel) rfl
theorem wi_460_149 : ri (rt_P sc fm) 460 149 (.getfield 859) (152) := ri_of (by decide +kernel) rfl
theorem wi_460_15 : ri (rt_P sc fm) 460 15 (.if_icmp .ge 210) (18) := ri_of (by decide +kernel) rfl
theorem wi_460_152 : ri (rt_P sc fm) 460 152 (.iload_n 2) (153) := ri_of (by decide +kernel) rfl
theorem wi_460_153 : ri (rt_P sc fm) 460 153 (.iastore) (154) := ri_of (by decide +kernel) rfl
theorem wi_460_154 : ri (rt_P sc fm) 460 154 (.aload_n 0) (155) := ri_of (by decide +kernel) rfl
theorem wi_460_155 : ri (rt_P sc fm) 460 155 (.getfield 280) (158) := ri_of (by decide +kernel) rfl
theorem wi_460_158 : ri (rt_P sc fm) 460 158 (.aload_n 0) (159) := ri_of (by decide +kernel) rfl
theorem wi_460_159 : ri (rt_P sc fm) 460 159 (.getfield 859) (162) := ri_of (by decide +kernel) rfl
theorem wi_460_162 : ri (rt_P sc fm) 460 162 (.iload_n 3) (163) := ri_of (by decide +kernel) rfl
theorem wi_460_163 : ri (rt_P sc fm) 460 163 (.iastore) (164) := ri_of (by decide +kernel) rfl
theorem wi_460_164 : ri (rt_P sc fm) 460 164 (.aload_n 0) (165) := ri_of (by decide +kernel) rfl
theorem wi_460_165 : ri (rt_P sc fm) 460 165 (.getfield 283) (168) := ri_of (by decide +kernel) rfl
theorem wi_460_168 : ri (rt_P sc fm) 460 168 (.aload_n 0) (169) := ri_of (by decide +kernel) rfl
theorem wi_460_169 : ri (rt_P sc fm) 460 169 (.getfield 859) (172) := ri_of (by decide +kernel) rfl
theorem wi_460_172 : ri (rt_P sc fm) 460 172 (.iload 5) (174) := ri_of (by decide +kernel) rfl
theorem wi_460_174 : ri (rt_P sc fm) 460 174 (.iastore) (175) := ri_of (by decide +kernel) rfl
theorem wi_460_175 : ri (rt_P sc fm) 460 175 (.aload_n 0) (176) := ri_of (by decide +kernel) rfl
theorem wi_460_176 : ri (rt_P sc fm) 460 176 (.getfield 286) (179) := ri_of (by decide +kernel) rfl
theorem wi_460_179 : ri (rt_P sc fm) 460 179 (.aload_n 0) (180) := ri_of (by decide +kernel) rfl
theorem wi_460_18 : ri (rt_P sc fm) 460 18 (.aload_n 0) (19) := ri_of (by decide +kernel) rfl
theorem wi_460_180 : ri (rt_P sc fm) 460 180 (.getfield 859) (183) := ri_of (by decide +kernel) rfl
theorem wi_460_183 : ri (rt_P sc fm) 460 183 (.iload 6) (185) := ri_of (by decide +kernel) rfl
theorem wi_460_185 : ri (rt_P sc fm) 460 185 (.iastore) (186) := ri_of (by decide +kernel) rfl
theorem wi_460_186 : ri (rt_P sc fm) 460 186 (.aload_n 0) (187) := ri_of (by decide +kernel) rfl
theorem wi_460_187 : ri (rt_P sc fm) 460 187 (.getfield 289) (190) := ri_of (by decide +kernel) rfl
theorem wi_460_19 : ri (rt_P sc fm) 460 19 (.iload_n 2) (20) := ri_of (by decide +kernel) rfl
theorem wi_460_190 : ri (rt_P sc fm) 460 190 (.aload_n 0) (191) := ri_of (by decide +kernel) rfl
theorem wi_460_191 : ri (rt_P sc fm) 460 191 (.getfield 859) (194) := ri_of (by decide +kernel) rfl
theorem wi_460_194 : ri (rt_P sc fm) 460 194 (.iload 7) (196) := ri_of (by decide +kernel) rfl
theorem wi_460_196 : ri (rt_P sc fm) 460 196 (.iastore) (197) := ri_of (by decide +kernel) rfl
theorem wi_460_197 : ri (rt_P sc fm) 460 197 (.aload_n 0) (198) := ri_of (by decide +kernel) rfl
theorem wi_460_198 : ri (rt_P sc fm) 460 198 (.dup) (199) := ri_of (by decide +kernel) rfl
theorem wi_460_199 : ri (rt_P sc fm) 460 199 (.getfield 859) (202) := ri_of (by decide +kernel) rfl
theorem wi_460_2 : ri (rt_P sc fm) 460 2 (.invokevirtual 856) (5) := ri_of (by decide +kernel) rfl
theorem wi_460_20 : ri (rt_P sc fm) 460 20 (.invokevirtual 614) (23) := ri_of (by decide +kernel) rfl
theorem wi_460_202 : ri (rt_P sc fm) 460 202 (.iconst 1) (203) := ri_of (by decide +kernel) rfl
theorem wi_460_203 : ri (rt_P sc fm) 460 203 (.iadd) (204) := ri_of (by decide +kernel) rfl
theorem wi_460_204 : ri (rt_P sc fm) 460 204 (.putfield 859) (207) := ri_of (by decide +kernel) rfl
theorem wi_460_207 : ri (rt_P sc fm) 460 207 (.iinc 5 1) (210) := ri_of (by decide +kernel) rfl
theorem wi_460_210 : ri (rt_P sc fm) 460 210 (.goto (-152)) (213) := ri_of (by decide +kernel) rfl
theorem wi_460_213 : ri (rt_P sc fm) 460 213 (.iinc 3 1) (216) := ri_of (by decide +kernel) rfl
theorem wi_460_216 : ri (rt_P sc fm) 460 216 (.goto (-179)) (219) := ri_of (by decide +kernel) rfl
theorem wi_460_219 : ri (rt_P sc fm) 460 219 (.iinc 2 1) (222) := ri_of (by decide +kernel) rfl
theorem wi_460_222 : ri (rt_P sc fm) 460 222 (.goto (-210)) (225) := ri_of (by decide +kernel) rfl
theorem wi_460_225 : ri (rt_P sc fm) 460 225 (.return_) (226) := ri_of (by decide +kernel) rfl
theorem wi_460_23 : ri (rt_P sc fm) 460 23 (.ifCond .ne 6) (26) := ri_of (by decide +kernel) rfl
theorem wi_460_26 : ri (rt_P sc fm) 460 26 (.goto 193) (29) := ri_of (by decide +kernel) rfl
theorem wi_460_29 : ri (rt_P sc fm) 460 29 (.aload_n 0) (30) := ri_of (by decide +kernel) rfl
theorem wi_460_30 : ri (rt_P sc fm) 460 30 (.iload_n 2) (31) := ri_of (by decide +kernel) rfl
theorem wi_460_31 : ri (rt_P sc fm) 460 31 (.iload_n 1) (32) := ri_of (by decide +kernel) rfl
theorem wi_460_32 : ri (rt_P sc fm) 460 32 (.invokevirtual 862) (35) := ri_of (by decide +kernel) rfl
theorem wi_460_35 : ri (rt_P sc fm) 460 35 (.iconst 0) (36) := ri_of (by decide +kernel) rfl
theorem wi_460_36 : ri (rt_P sc fm) 460 36 (.istore_n 3) (37) := ri_of (by decide +kernel) rfl
theorem wi_460_37 : ri (rt_P sc fm) 460 37 (.iload_n 3) (38) := ri_of (by decide +kernel) rfl
theorem wi_460_38 : ri (rt_P sc fm) 460 38 (.aload_n 0) (39) := ri_of (by decide +kernel) rfl
theorem wi_460_39 : ri (rt_P sc fm) 460 39 (.getfield 182) (42) := ri_of (by decide +kernel) rfl
theorem wi_460_42 : ri (rt_P sc fm) 460 42 (.iload_n 2) (43) := ri_of (by decide +kernel) rfl
theorem wi_460_43 : ri (rt_P sc fm) 460 43 (.iaload) (44) := ri_of (by decide +kernel) rfl
theorem wi_460_44 : ri (rt_P sc fm) 460 44 (.if_icmp .ge 175) (47) := ri_of (by decide +kernel) rfl
theorem wi_460_47 : ri (rt_P sc fm) 460 47 (.bipush 40) (49) := ri_of (by decide +kernel) rfl
theorem wi_460_49 : ri (rt_P sc fm) 460 49 (.iload_n 2) (50) := ri_of (by decide +kernel) rfl
theorem wi_460_5 : ri (rt_P sc fm) 460 5 (.aload_n 0) (6) := ri_of (by decide +kernel) rfl
theorem wi_460_50 : ri (rt_P sc fm) 460 50 (.imul) (51) := ri_of (by decide +kernel) rfl
theorem wi_460_51 : ri (rt_P sc fm) 460 51 (.iload_n 3) (52) := ri_of (by decide +kernel) rfl
theorem wi_460_52 : ri (rt_P sc fm) 460 52 (.iadd) (53) := ri_of (by decide +kernel) rfl
theorem wi_460_53 : ri (rt_P sc fm) 460 53 (.istore 4) (55) := ri_of (by decide +kernel) rfl
theorem wi_460_55 : ri (rt_P sc fm) 460 55 (.iconst 0) (56) := ri_of (by decide +kernel) rfl
theorem wi_460_56 : ri (rt_P sc fm) 460 56 (.istore 5) (58) := ri_of (by decide +kernel) rfl
theorem wi_460_58 : ri (rt_P sc fm) 460 58 (.iload 5) (60) := ri_of (by decide +kernel) rfl
theorem wi_460_6 : ri (rt_P sc fm) 460 6 (.iconst 0) (7) := ri_of (by decide +kernel) rfl
theorem wi_460_60 : ri (rt_P sc fm) 460 60 (.aload_n 0) (61) := ri_of (by decide +kernel) rfl
theorem wi_460_61 : ri (rt_P sc fm) 460 61 (.iload 4) (63) := ri_of (by decide +kernel) rfl
theorem wi_460_63 : ri (rt_P sc fm) 460 63 (.invokevirtual 853) (66) := ri_of (by decide +kernel) rfl
theorem wi_460_66 : ri (rt_P sc fm) 460 66 (.if_icmp .ge 147) (69) := ri_of (by decide +kernel) rfl
theorem wi_460_69 : ri (rt_P sc fm) 460 69 (.aload_n 0) (70) := ri_of (by decide +kernel) rfl
theorem wi_460_7 : ri (rt_P sc fm) 460 7 (.putfield 859) (10) := ri_of (by decide +kernel) rfl
theorem wi_460_70 : ri (rt_P sc fm) 460 70 (.getfield 271) (73) := ri_of (by decide +kernel) rfl
theorem wi_460_73 : ri (rt_P sc fm) 460 73 (.iload 4) (75) := ri_of (by decide +kernel) rfl
theorem wi_460_75 : ri (rt_P sc fm) 460 75 (.baload) (76) := ri_of (by decide +kernel) rfl
theorem wi_460_76 : ri (rt_P sc fm) 460 76 (.ifCond .eq 137) (79) := ri_of (by decide +kernel) rfl
theorem wi_460_79 : ri (rt_P sc fm) 460 79 (.aload_n 0) (80) := ri_of (by decide +kernel) rfl
theorem wi_460_80 : ri (rt_P sc fm) 460 80 (.getfield 268) (83) := ri_of (by decide +kernel) rfl
theorem wi_460_83 : ri (rt_P sc fm) 460 83 (.bipush 16) (85) := ri_of (by decide +kernel) rfl
theorem wi_460_85 : ri (rt_P sc fm) 460 85 (.iload 4) (87) := ri_of (by decide +kernel) rfl
theorem wi_460_87 : ri (rt_P sc fm) 460 87 (.imul) (88) := ri_of (by decide +kernel) rfl
theorem wi_460_88 : ri (rt_P sc fm) 460 88 (.bipush 8) (90) := ri_of (by decide +kernel) rfl
theorem wi_460_90 : ri (rt_P sc fm) 460 90 (.iadd) (91) := ri_of (by decide +kernel) rfl
theorem wi_460_91 : ri (rt_P sc fm) 460 91 (.aload_n 0) (92) := ri_of (by decide +kernel) rfl
theorem wi_460_92 : ri (rt_P sc fm) 460 92 (.getfield 243) (95) := ri_of (by decide +kernel) rfl
theorem wi_460_95 : ri (rt_P sc fm) 460 95 (.iload 4) (97) := ri_of (by decide +kernel) rfl
theorem wi_460_97 : ri (rt_P sc fm) 460 97 (.iaload) (98) := ri_of (by decide +kernel) rfl
theorem wi_460_98 : ri (rt_P sc fm) 460 98 (.iadd) (99) := ri_of (by decide +kernel) rfl
theorem wi_460_99 : ri (rt_P sc fm) 460 99 (.iconst 1) (100) := ri_of (by decide +kernel) rfl
theorem wm_450 : rx_ml (rt_P sc fm) 450 = 3 := (by decide +kernel : rt_ml 450 = 3)
theorem wm_456 : rx_ml (rt_P sc fm) 456 = 6 := (by decide +kernel : rt_ml 456 = 6)
theorem wm_458 : rx_ml (rt_P sc fm) 458 = 4 := (by decide +kernel : rt_ml 458 = 4)
theorem wm_459 : rx_ml (rt_P sc fm) 459 = 3 := (by decide +kernel : rt_ml 459 = 3)
theorem wp_460_859 : rx_pt (rt_P sc fm) 460 859 = some (15, 91, .int) := (by decide +kernel : rt_pt 460 859 = some (15, 91, .int))
theorem wr_460 : rx_rt (rt_P sc fm) 460 = none := (by decide +kernel : rt_rt 460 = none)
/-- MarkHouseModel.flowAll(I)V -/
def d_460 (n : Nat) (a1 : Int32) (c : cS) : Option (cS) :=
  Option.bind (d_450 n a1 c) (fun r1 =>
  lt (pI r1 174 91 0) (fun c2 =>
  Option.bind (whl (R := (cS)) (fun s5 : Int32 × cS =>
    if 96 ≤ s5.1 then
      some (.inr s5.2)
    else
      Option.bind (d_105 n s5.1 s5.2) (fun v6 =>
      jn (fun p7 : cS =>
        lt (s5.1 + 1 : Int32) (fun v9 =>
        some (.inl (v9, p7))))
      (fun j219 =>
      if v6 = 0 then
        j219 s5.2
      else
        Option.bind (d_456 n s5.1 a1 s5.2) (fun r11 =>
        Option.bind (whl (R := (cS)) (fun s13 : Int32 × cS =>
          if ib s5.1 96 then
          if (s13.2.1 210 (ix s5.1)) ≤ s13.1 then
            some (.inr s13.2)
          else
            lt (((40 * s5.1) + s13.1) : Int32) (fun v16 =>
            Option.bind (whl (R := (cS)) (fun s19 : Int32 × cS =>
              Option.bind (d_457 n v16 s19.2) (fun v20 =>
              if v20 ≤ s19.1 then
                some (.inr s19.2)
              else
                if ib v16 3840 then
                if (s19.2.1 239 (ix v16)) = 0 then
                  some (.inr s19.2)
                else
                  if ib v16 3840 then
                  Option.bind (d_459 n v16 s19.1 s19.2) (fun v23 =>
                  if ib (((((16 * v16) + 8) + (s19.2.1 230 (ix v16))) - 1) - v23) 61440 then
                  lt ((s19.2.1 238 (ix (((((16 * v16) + 8) + (s19.2.1 230 (ix v16))) - 1) - v23))) : Int32) (fun v26 =>
                  Option.bind (d_458 n s5.1 v16 s19.1 s19.2) (fun v28 =>
                  if ib v28 1200 then
                  lt ((s19.2.1 236 (ix v28)) : Int32) (fun v31 =>
                  Option.bind (d_387 n a1 v26 v31 s19.2) (fun v33 =>
                  jn (fun p34 : cS =>
                    lt (s19.1 + 1 : Int32) (fun v36 =>
                    some (.inl (v36, p34))))
                  (fun j207 =>
                  if v33 = 0 then
                    if ib (s19.2.1 174 91) 15360 then
                    lt (pI s19.2 241 (ix (s19.2.1 174 91)) s5.1) (fun c39 =>
                    if ib (c39.1 174 91) 15360 then
                    lt (pI c39 242 (ix (c39.1 174 91)) s13.1) (fun c42 =>
                    if ib (c42.1 174 91) 15360 then
                    lt (pI c42 243 (ix (c42.1 174 91)) s19.1) (fun c45 =>
                    if ib (c45.1 174 91) 15360 then
                    lt (pI c45 244 (ix (c45.1 174 91)) v26) (fun c48 =>
                    if ib (c48.1 174 91) 15360 then
                    lt (pI c48 245 (ix (c48.1 174 91)) v31) (fun c51 =>
                    lt (pI c51 174 91 ((c51.1 174 91) + 1)) (fun c53 =>
                    j207 c53))
                    else none)
                    else none)
                    else none)
                    else none)
                    else none
                  else
                    j207 s19.2)))
                  else none))
                  else none)
                  else none
                else none)) n (0, s13.2))
            (fun x55 : cS =>
              lt (s13.1 + 1 : Int32) (fun v57 =>
              some (.inl (v57, x55)))))
          else none) n (0, r11))
        (fun x59 : cS =>
          j219 x59))))) n (0, c2))
  (fun x60 : cS =>
    some x60)))
theorem sp_460 {F Lo n : Nat} {a1 : Int32} {c y : cS} {w : cW} {K : cS → Prop} {Q : ((Option Value) ⊕ String) → List va_E → Prop} (hw : rOK fm w) (hF : 6 ≤ F) (hLo : 149 ≤ Lo)  (h : wp (d_460 n a1 c) K) (hQ : ∀ r, K r → Q (.inl none) (hq false r y w)) : rs (rt_P sc fm) 460 F Lo 0 [(0, .ref 174), (1, .int a1)] [] (hq false c y w) Q := by
  unfold d_460 at h
  obtain ⟨lv, elv⟩ : ∃ lv : rx_L, lv = [(0, .ref 174), (1, .int a1)] := ⟨_, rfl⟩
  rw [← elv]
  have l0 : rx_ld lv 0 = some (.ref 174) := by rw [elv]; rfl
  have l1 : rx_ld lv 1 = some (.int a1) := by rw [elv]; rfl
  refine rs_aldn wi_460_0 l0 ?_
  refine rs_ildn wi_460_1 l1 ?_
  refine rs_V wi_460_2 wc_460_856 rfl (dq_isa tf_174_0 wa_15_450) (Nat.le_trans (by decide) hF) (ml_le wm_450 (Nat.le_trans (by decide) hLo)) rfl (sp_450 hw (Nat.le_trans (by decide : 5 ≤ 6 - 1) (Nat.sub_le_sub_right hF 1)) (ml_sub wm_450 (Nat.le_trans (by decide : 127 ≤ 149 - 22) (Nat.sub_le_sub_right hLo 22))) (wp_bind h) (fun r1 h => rs_back0 ?_))
  refine rs_aldn wi_460_5 l0 ?_
  refine rs_pure wi_460_6 rfl ?_
  refine rs_topi (v := 0) (by decide) ?_
  obtain ⟨c2, e3, h⟩ := wp_lt h
  refine dq_pi wi_460_7 wp_460_859 tf_174_91 rfl rfl e3 ?_
  refine rs_pure wi_460_10 rfl ?_
  refine rs_topi (v := 0) (by decide) ?_
  refine dl_istn wi_460_11 rfl (fun lv l2 t4 => ?_)
  have l0 := t4 _ _ (by decide) (Or.inl rfl) l0
  have l1 := t4 _ _ (by decide) (Or.inl rfl) l1
  refine whl_ex (A := fun s5 : Int32 × cS => ∀ lv, rx_ld lv 0 = some (.ref 174) → rx_ld lv 1 = some (.int a1) → rx_ld lv 2 = some (.int s5.1) → rs (rt_P sc fm) 460 F Lo 12 lv [] (hq false s5.2 y w) Q) (B := (fun x60 : cS => ∀ lv, rs (rt_P sc fm) 460 F Lo 225 lv [] (hq false x60 y w) Q)) ?_ ?_ _ _ (wp_bind h) _ l0 l1 l2
  · intro s5 h lv l0 l1 l2
    refine rs_ildn wi_460_12 l2 ?_
    refine rs_pure wi_460_13 rfl ?_
    refine rs_topi (v := 96) (by decide) ?_
    refine rs_icge (tg := 225) wi_460_15 ⟨by decide, by decide⟩ (fun q => ?_) (fun q => ?_)
    ·
      have h := wp_pos h q
      exact h _
    ·
      have h := wp_neg h q
      refine rs_aldn wi_460_18 l0 ?_
      refine rs_ildn wi_460_19 l2 ?_
      refine rs_V wi_460_20 wc_460_614 rfl (dq_isa tf_174_0 wa_15_105) (Nat.le_trans (by decide) hF) (ml_le wm_105 (Nat.le_trans (by decide) hLo)) rfl (sp_105 hw (Nat.le_trans (by decide : 0 ≤ 6 - 1) (Nat.sub_le_sub_right hF 1)) (ml_sub wm_105 (Nat.le_trans (by decide : 0 ≤ 149 - 21) (Nat.sub_le_sub_right hLo 21))) (wp_bind h) (fun v6 h => rs_back1 ?_))
      refine wp_jn (B := fun p7 : cS => ∀ lv, rx_ld lv 0 = some (.ref 174) → rx_ld lv 1 = some (.int a1) → rx_ld lv 2 = some (.int s5.1) → rs (rt_P sc fm) 460 F Lo 219 lv [] (hq false p7 y w) Q) h (fun p7 h lv l0 l1 l2 => ?_) (fun j219 hj219 h => ?_)
      ·
        obtain ⟨v9, e10, h⟩ := wp_lt h
        refine dl_inc wi_460_219 l2 rfl e10 (fun lv l2 t8 => ?_)
        have l0 := t8 _ _ (by decide) (Or.inl rfl) l0
        have l1 := t8 _ _ (by decide) (Or.inl rfl) l1
        refine rs_goto (tg := 12) wi_460_222 ⟨by decide, by decide⟩ ?_
        exact h _ l0 l1 l2
      refine rs_ifne (tg := 29) wi_460_23 ⟨by decide, by decide⟩ (fun q => ?_) (fun q => ?_)
      ·
        have h := wp_neg h q
        refine rs_aldn wi_460_29 l0 ?_
        refine rs_ildn wi_460_30 l2 ?_
        refine rs_ildn wi_460_31 l1 ?_
        refine rs_V wi_460_32 wc_460_862 rfl (dq_isa tf_174_0 wa_15_456) (Nat.le_trans (by decide) hF) (ml_le wm_456 (Nat.le_trans (by decide) hLo)) rfl (sp_456 hw (Nat.le_trans (by decide : 3 ≤ 6 - 1) (Nat.sub_le_sub_right hF 1)) (ml_sub wm_456 (Nat.le_trans (by decide : 70 ≤ 149 - 25) (Nat.sub_le_sub_right hLo 25))) (wp_bind h) (fun r11 h => rs_back0 ?_))
        refine rs_pure wi_460_35 rfl ?_
        refine rs_topi (v := 0) (by decide) ?_
        refine dl_istn wi_460_36 rfl (fun lv l3 t12 => ?_)
        have l0 := t12 _ _ (by decide) (Or.inl rfl) l0
        have l1 := t12 _ _ (by decide) (Or.inl rfl) l1
        have l2 := t12 _ _ (by decide) (Or.inl rfl) l2
        refine whl_ex (A := fun s13 : Int32 × cS => ∀ lv, rx_ld lv 0 = some (.ref 174) → rx_ld lv 1 = some (.int a1) → rx_ld lv 2 = some (.int s5.1) → rx_ld lv 3 = some (.int s13.1) → rs (rt_P sc fm) 460 F Lo 37 lv [] (hq false s13.2 y w) Q) (B := (fun x59 : cS => ∀ lv, rx_ld lv 0 = some (.ref 174) → rx_ld lv 1 = some (.int a1) → rx_ld lv 2 = some (.int s5.1) → rs (rt_P sc fm) 460 F Lo 219 lv [] (hq false x59 y w) Q)) ?_ ?_ _ _ (wp_bind h) _ l0 l1 l2 l3
        · intro s13 h lv l0 l1 l2 l3
          refine rs_ildn wi_460_37 l3 ?_
          refine rs_aldn wi_460_38 l0 ?_
          refine dq_gr wi_460_39 wf_460_182 tf_174_48 ?_
          refine rs_ildn wi_460_42 l2 ?_
          obtain ⟨g14, h⟩ := wp_gd h
          refine dq_iald wi_460_43 t_210 g14 ?_
          refine rs_icge (tg := 219) wi_460_44 ⟨by decide, by decide⟩ (fun q => ?_) (fun q => ?_)
          ·
            have h := wp_pos h q
            exact h _ l0 l1 l2
          ·
            have h := wp_neg h q
            refine rs_pure wi_460_47 rfl ?_
            refine rs_topi (v := 40) (by decide) ?_
            refine rs_ildn wi_460_49 l2 ?_
            refine rs_pure wi_460_50 rfl ?_
            refine rs_ildn wi_460_51 l3 ?_
            refine rs_pure wi_460_52 rfl ?_
            obtain ⟨v16, e17, h⟩ := wp_lt h
            refine rs_topi e17 ?_
            refine dl_ist wi_460_53 rfl (fun lv l4 t15 => ?_)
            have l0 := t15 _ _ (by decide) (Or.inl rfl) l0
            have l1 := t15 _ _ (by decide) (Or.inl rfl) l1
            have l2 := t15 _ _ (by decide) (Or.inl rfl) l2
            have l3 := t15 _ _ (by decide) (Or.inl rfl) l3
            refine rs_pure wi_460_55 rfl ?_
            refine rs_topi (v := 0) (by decide) ?_
            refine dl_ist wi_460_56 rfl (fun lv l5 t18 => ?_)
            have l0 := t18 _ _ (by decide) (Or.inl rfl) l0
            have l1 := t18 _ _ (by decide) (Or.inl rfl) l1
            have l2 := t18 _ _ (by decide) (Or.inl rfl) l2
            have l3 := t18 _ _ (by decide) (Or.inl rfl) l3
            have l4 := t18 _ _ (by decide) (Or.inl rfl) l4
            refine whl_ex (A := fun s19 : Int32 × cS => ∀ lv, rx_ld lv 0 = some (.ref 174) → rx_ld lv 1 = some (.int a1) → rx_ld lv 2 = some (.int s5.1) → rx_ld lv 3 = some (.int s13.1) → rx_ld lv 4 = some (.int v16) → rx_ld lv 5 = some (.int s19.1) → rs (rt_P sc fm) 460 F Lo 58 lv [] (hq false s19.2 y w) Q) (B := (fun x55 : cS => ∀ lv, rx_ld lv 0 = some (.ref 174) → rx_ld lv 1 = some (.int a1) → rx_ld lv 2 = some (.int s5.1) → rx_ld lv 3 = some (.int s13.1) → rs (rt_P sc fm) 460 F Lo 213 lv [] (hq false x55 y w) Q)) ?_ ?_ _ _ (wp_bind h) _ l0 l1 l2 l3 l4 l5
            · intro s19 h lv l0 l1 l2 l3 l4 l5
              refine rs_ild wi_460_58 l5 ?_
              refine rs_aldn wi_460_60 l0 ?_
              refine rs_ild wi_460_61 l4 ?_
              refine rs_V wi_460_63 wc_460_853 rfl (dq_isa tf_174_0 wa_15_457) (Nat.le_trans (by decide) hF) (ml_le wm_457 (Nat.le_trans (by decide) hLo)) rfl (sp_457 hw (Nat.le_trans (by decide : 0 ≤ 6 - 1) (Nat.sub_le_sub_right hF 1)) (ml_sub wm_457 (Nat.le_trans (by decide : 0 ≤ 149 - 21) (Nat.sub_le_sub_right hLo 21))) (wp_bind h) (fun v20 h => rs_back1 ?_))
              refine rs_icge (tg := 213) wi_460_66 ⟨by decide, by decide⟩ (fun q => ?_) (fun q => ?_)
              ·
                have h := wp_pos h q
                exact h _ l0 l1 l2 l3
              ·
                have h := wp_neg h q
                refine rs_aldn wi_460_69 l0 ?_
                refine dq_gr wi_460_70 wf_460_271 tf_174_88 ?_
                refine rs_ild wi_460_73 l4 ?_
                obtain ⟨g21, h⟩ := wp_gd h
                refine dq_zald wi_460_75 t_239 g21 ?_
                refine rs_ifeq (tg := 213) wi_460_76 ⟨by decide, by decide⟩ (fun q => ?_) (fun q => ?_)
                ·
                  have h := wp_pos h q
                  exact h _ l0 l1 l2 l3
                ·
                  have h := wp_neg h q
                  refine rs_aldn wi_460_79 l0 ?_
                  refine dq_gr wi_460_80 wf_460_268 tf_174_87 ?_
                  refine rs_pure wi_460_83 rfl ?_
                  refine rs_topi (v := 16) (by decide) ?_
                  refine rs_ild wi_460_85 l4 ?_
                  refine rs_pure wi_460_87 rfl ?_
                  refine rs_pure wi_460_88 rfl ?_
                  refine rs_topi (v := 8) (by decide) ?_
                  refine rs_pure wi_460_90 rfl ?_
                  refine rs_aldn wi_460_91 l0 ?_
                  refine dq_gr wi_460_92 wf_460_243 tf_174_70 ?_
                  refine rs_ild wi_460_95 l4 ?_
                  obtain ⟨g22, h⟩ := wp_gd h
                  refine dq_iald wi_460_97 t_230 g22 ?_
                  refine rs_pure wi_460_98 rfl ?_
                  refine rs_pure wi_460_99 rfl ?_
                  refine rs_topi (v := 1) (by decide) ?_
                  refine rs_pure wi_460_100 rfl ?_
                  refine rs_aldn wi_460_101 l0 ?_
                  refine rs_ild wi_460_102 l4 ?_
                  refine rs_ild wi_460_104 l5 ?_
                  refine rs_V wi_460_106 wc_460_865 rfl (dq_isa tf_174_0 wa_15_459) (Nat.le_trans (by decide) hF) (ml_le wm_459 (Nat.le_trans (by decide) hLo)) rfl (sp_459 hw (Nat.le_trans (by decide : 1 ≤ 6 - 1) (Nat.sub_le_sub_right hF 1)) (ml_sub wm_459 (Nat.le_trans (by decide : 21 ≤ 149 - 22) (Nat.sub_le_sub_right hLo 22))) (wp_bind h) (fun v23 h => rs_back1 ?_))
                  refine rs_pure wi_460_109 rfl ?_
                  obtain ⟨g24, h⟩ := wp_gd h
                  refine dq_iald wi_460_110 t_238 g24 ?_
                  obtain ⟨v26, e27, h⟩ := wp_lt h
                  refine rs_topi e27 ?_
                  refine dl_ist wi_460_111 rfl (fun lv l6 t25 => ?_)
                  have l0 := t25 _ _ (by decide) (Or.inl rfl) l0
                  have l1 := t25 _ _ (by decide) (Or.inl rfl) l1
                  have l2 := t25 _ _ (by decide) (Or.inl rfl) l2
                  have l3 := t25 _ _ (by decide) (Or.inl rfl) l3
                  have l4 := t25 _ _ (by decide) (Or.inl rfl) l4
                  have l5 := t25 _ _ (by decide) (Or.inl rfl) l5
                  refine rs_aldn wi_460_113 l0 ?_
                  refine dq_gr wi_460_114 wf_460_261 tf_174_85 ?_
                  refine rs_aldn wi_460_117 l0 ?_
                  refine rs_ildn wi_460_118 l2 ?_
                  refine rs_ild wi_460_119 l4 ?_
                  refine rs_ild wi_460_121 l5 ?_
                  refine rs_V wi_460_123 wc_460_868 rfl (dq_isa tf_174_0 wa_15_458) (Nat.le_trans (by decide) hF) (ml_le wm_458 (Nat.le_trans (by decide) hLo)) rfl (sp_458 hw (Nat.le_trans (by decide : 1 ≤ 6 - 1) (Nat.sub_le_sub_right hF 1)) (ml_sub wm_458 (Nat.le_trans (by decide : 21 ≤ 149 - 23) (Nat.sub_le_sub_right hLo 23))) (wp_bind h) (fun v28 h => rs_back1 ?_))
                  obtain ⟨g29, h⟩ := wp_gd h
                  refine dq_iald wi_460_126 t_236 g29 ?_
                  obtain ⟨v31, e32, h⟩ := wp_lt h
                  refine rs_topi e32 ?_
                  refine dl_ist wi_460_127 rfl (fun lv l7 t30 => ?_)
                  have l0 := t30 _ _ (by decide) (Or.inl rfl) l0
                  have l1 := t30 _ _ (by decide) (Or.inl rfl) l1
                  have l2 := t30 _ _ (by decide) (Or.inl rfl) l2
                  have l3 := t30 _ _ (by decide) (Or.inl rfl) l3
                  have l4 := t30 _ _ (by decide) (Or.inl rfl) l4
                  have l5 := t30 _ _ (by decide) (Or.inl rfl) l5
                  have l6 := t30 _ _ (by decide) (Or.inl rfl) l6
                  refine rs_aldn wi_460_129 l0 ?_
                  refine rs_ildn wi_460_130 l1 ?_
                  refine rs_ild wi_460_131 l6 ?_
                  refine rs_ild wi_460_133 l7 ?_
                  refine rs_V wi_460_135 wc_460_535 rfl (dq_isa tf_174_0 wa_15_387) (Nat.le_trans (by decide) hF) (ml_le wm_387 (Nat.le_trans (by decide) hLo)) rfl (sp_387 hw (Nat.le_trans (by decide : 1 ≤ 6 - 1) (Nat.sub_le_sub_right hF 1)) (ml_sub wm_387 (Nat.le_trans (by decide : 23 ≤ 149 - 23) (Nat.sub_le_sub_right hLo 23))) (wp_bind h) (fun v33 h => rs_back1 ?_))
                  refine wp_jn (B := fun p34 : cS => ∀ lv, rx_ld lv 0 = some (.ref 174) → rx_ld lv 1 = some (.int a1) → rx_ld lv 2 = some (.int s5.1) → rx_ld lv 3 = some (.int s13.1) → rx_ld lv 4 = some (.int v16) → rx_ld lv 5 = some (.int s19.1) → rs (rt_P sc fm) 460 F Lo 207 lv [] (hq false p34 y w) Q) h (fun p34 h lv l0 l1 l2 l3 l4 l5 => ?_) (fun j207 hj207 h => ?_)
                  ·
                    obtain ⟨v36, e37, h⟩ := wp_lt h
                    refine dl_inc wi_460_207 l5 rfl e37 (fun lv l5 t35 => ?_)
                    have l0 := t35 _ _ (by decide) (Or.inl rfl) l0
                    have l1 := t35 _ _ (by decide) (Or.inl rfl) l1
                    have l2 := t35 _ _ (by decide) (Or.inl rfl) l2
                    have l3 := t35 _ _ (by decide) (Or.inl rfl) l3
                    have l4 := t35 _ _ (by decide) (Or.inl rfl) l4
                    refine rs_goto (tg := 58) wi_460_210 ⟨by decide, by decide⟩ ?_
                    exact h _ l0 l1 l2 l3 l4 l5
                  refine rs_ifeq (tg := 144) wi_460_138 ⟨by decide, by decide⟩ (fun q => ?_) (fun q => ?_)
                  ·
                    have h := wp_pos h q
                    refine rs_aldn wi_460_144 l0 ?_
                    refine dq_gr wi_460_145 wf_460_277 tf_174_92 ?_
                    refine rs_aldn wi_460_148 l0 ?_
                    refine dq_gi wi_460_149 wf_460_859 tf_174_91 ?_
                    refine rs_ildn wi_460_152 l2 ?_
                    obtain ⟨g38, h⟩ := wp_gd h
                    obtain ⟨c39, e40, h⟩ := wp_lt h
                    refine dq_iast wi_460_153 t_241 g38 e40 ?_
                    refine rs_aldn wi_460_154 l0 ?_
                    refine dq_gr wi_460_155 wf_460_280 tf_174_93 ?_
                    refine rs_aldn wi_460_158 l0 ?_
                    refine dq_gi wi_460_159 wf_460_859 tf_174_91 ?_
                    refine rs_ildn wi_460_162 l3 ?_
                    obtain ⟨g41, h⟩ := wp_gd h
                    obtain ⟨c42, e43, h⟩ := wp_lt h
                    refine dq_iast wi_460_163 t_242 g41 e43 ?_
                    refine rs_aldn wi_460_164 l0 ?_
                    refine dq_gr wi_460_165 wf_460_283 tf_174_94 ?_
                    refine rs_aldn wi_460_168 l0 ?_
                    refine dq_gi wi_460_169 wf_460_859 tf_174_91 ?_
                    refine rs_ild wi_460_172 l5 ?_
                    obtain ⟨g44, h⟩ := wp_gd h
                    obtain ⟨c45, e46, h⟩ := wp_lt h
                    refine dq_iast wi_460_174 t_243 g44 e46 ?_
                    refine rs_aldn wi_460_175 l0 ?_
                    refine dq_gr wi_460_176 wf_460_286 tf_174_95 ?_
                    refine rs_aldn wi_460_179 l0 ?_
                    refine dq_gi wi_460_180 wf_460_859 tf_174_91 ?_
                    refine rs_ild wi_460_183 l6 ?_
                    obtain ⟨g47, h⟩ := wp_gd h
                    obtain ⟨c48, e49, h⟩ := wp_lt h
                    refine dq_iast wi_460_185 t_244 g47 e49 ?_
                    refine rs_aldn wi_460_186 l0 ?_
                    refine dq_gr wi_460_187 wf_460_289 tf_174_96 ?_
                    refine rs_aldn wi_460_190 l0 ?_
                    refine dq_gi wi_460_191 wf_460_859 tf_174_91 ?_
                    refine rs_ild wi_460_194 l7 ?_
                    obtain ⟨g50, h⟩ := wp_gd h
                    obtain ⟨c51, e52, h⟩ := wp_lt h
                    refine dq_iast wi_460_196 t_245 g50 e52 ?_
                    refine rs_aldn wi_460_197 l0 ?_
                    refine rs_pure wi_460_198 rfl ?_
                    refine dq_gi wi_460_199 wf_460_859 tf_174_91 ?_
                    refine rs_pure wi_460_202 rfl ?_
                    refine rs_topi (v := 1) (by decide) ?_
                    refine rs_pure wi_460_203 rfl ?_
                    obtain ⟨c53, e54, h⟩ := wp_lt h
                    refine dq_pi wi_460_204 wp_460_859 tf_174_91 rfl rfl e54 ?_
                    exact hj207 _ h _ l0 l1 l2 l3 l4 l5
                  ·
                    have h := wp_neg h q
                    refine rs_goto (tg := 207) wi_460_141 ⟨by decide, by decide⟩ ?_
                    exact hj207 _ h _ l0 l1 l2 l3 l4 l5
            ·
              intro x55 h lv l0 l1 l2 l3
              obtain ⟨v57, e58, h⟩ := wp_lt h
              refine dl_inc wi_460_213 l3 rfl e58 (fun lv l3 t56 => ?_)
              have l0 := t56 _ _ (by decide) (Or.inl rfl) l0
              have l1 := t56 _ _ (by decide) (Or.inl rfl) l1
              have l2 := t56 _ _ (by decide) (Or.inl rfl) l2
              refine rs_goto (tg := 37) wi_460_216 ⟨by decide, by decide⟩ ?_
              exact h _ l0 l1 l2 l3
        ·
          intro x59 h lv l0 l1 l2
          exact hj219 _ h _ l0 l1 l2
      ·
        have h := wp_pos h q
        refine rs_goto (tg := 219) wi_460_26 ⟨by decide, by decide⟩ ?_
        exact hj219 _ h _ l0 l1 l2
  ·
    intro x60 h lv
    exact rs_vret wi_460_225 wr_460 (hQ x60 h)
theorem wa_15_460 : rz_cn 15 (rx_yn (rt_P sc fm) 460).cls = true := (by decide +kernel : rz_cn 15 (rt_yn 460).cls = true)
theorem wc_126_724 : rx_ct (rt_P sc fm) 126 724 = some (0, 119, 1) := (by decide +kernel : rt_ct 126 724 = some (0, 119, 1))
theorem wc_126_871 : rx_ct (rt_P sc fm) 126 871 = some (0, 460, 1) := (by decide +kernel : rt_ct 126 871 = some (0, 460, 1))
theorem wf_126_859 : rx_ft (rt_P sc fm) 126 859 = some (15, 91) := (by decide +kernel : rt_ft 126 859 = some (15, 91))
theorem wi_126_0 : ri (rt_P sc fm) 126 0 (.aload_n 0) (1) := ri_of (by decide +kernel) rfl
theorem wi_126_1 : ri (rt_P sc fm) 126 1 (.iconst 0) (2) := ri_of (by decide +kernel) rfl
theorem wi_126_10 : ri (rt_P sc fm) 126 10 (.ifCond .ne 5) (13) := ri_of (by decide +kernel) rfl
theorem wi_126_13 : ri (rt_P sc fm) 126 13 (.iconst (-1)) (14) := ri_of (by decide +kernel) rfl
theorem wi_126_14 : ri (rt_P sc fm) 126 14 (.ireturn) (15) := ri_of (by decide +kernel) rfl
theorem wi_126_15 : ri (rt_P sc fm) 126 15 (.aload_n 0) (16) := ri_of (by decide +kernel) rfl
theorem wi_126_16 : ri (rt_P sc fm) 126 16 (.iload_n 1) (17) := ri_of (by decide +kernel) rfl
theorem wi_126_17 : ri (rt_P sc fm) 126 17 (.invokevirtual 871) (20) := ri_of (by decide +kernel) rfl
theorem wi_126_2 : ri (rt_P sc fm) 126 2 (.putfield 356) (5) := ri_of (by decide +kernel) rfl
theorem wi_126_20 : ri (rt_P sc fm) 126 20 (.aload_n 0) (21) := ri_of (by decide +kernel) rfl
theorem wi_126_21 : ri (rt_P sc fm) 126 21 (.iload_n 1) (22) := ri_of (by decide +kernel) rfl
theorem wi_126_22 : ri (rt_P sc fm) 126 22 (.putfield 292) (25) := ri_of (by decide +kernel) rfl
theorem wi_126_25 : ri (rt_P sc fm) 126 25 (.aload_n 0) (26) := ri_of (by decide +kernel) rfl
theorem wi_126_26 : ri (rt_P sc fm) 126 26 (.iconst 0) (27) := ri_of (by decide +kernel) rfl
theorem wi_126_27 : ri (rt_P sc fm) 126 27 (.putfield 874) (30) := ri_of (by decide +kernel) rfl
theorem wi_126_30 : ri (rt_P sc fm) 126 30 (.aload_n 0) (31) := ri_of (by decide +kernel) rfl
theorem wi_126_31 : ri (rt_P sc fm) 126 31 (.getfield 859) (34) := ri_of (by decide +kernel) rfl
theorem wi_126_34 : ri (rt_P sc fm) 126 34 (.ireturn) (35) := ri_of (by decide +kernel) rfl
theorem wi_126_5 : ri (rt_P sc fm) 126 5 (.aload_n 0) (6) := ri_of (by decide +kernel) rfl
theorem wi_126_6 : ri (rt_P sc fm) 126 6 (.iload_n 1) (7) := ri_of (by decide +kernel) rfl
theorem wi_126_7 : ri (rt_P sc fm) 126 7 (.invokevirtual 724) (10) := ri_of (by decide +kernel) rfl
theorem wm_460 : rx_ml (rt_P sc fm) 460 = 8 := (by decide +kernel : rt_ml 460 = 8)
theorem wp_126_292 : rx_pt (rt_P sc fm) 126 292 = some (15, 97, .int) := (by decide +kernel : rt_pt 126 292 = some (15, 97, .int))
theorem wp_126_356 : rx_pt (rt_P sc fm) 126 356 = some (15, 0, .int) := (by decide +kernel : rt_pt 126 356 = some (15, 0, .int))
theorem wp_126_874 : rx_pt (rt_P sc fm) 126 874 = some (15, 102, .int) := (by decide +kernel : rt_pt 126 874 = some (15, 102, .int))
theorem wr_126 : rx_rt (rt_P sc fm) 126 = (some FieldType.int) := (by decide +kernel : rt_rt 126 = (some FieldType.int))
/-- MarkHouseModel.flow(I)I -/
def d_126 (n : Nat) (a1 : Int32) (c : cS) : Option (Int32 × cS) :=
  lt (pI c 174 0 0) (fun c1 =>
  Option.bind (d_119 n a1 c1) (fun v3 =>
  if v3 = 0 then
    some ((-1), c1)
  else
    Option.bind (d_460 n a1 c1) (fun r4 =>
    lt (pI r4 174 97 a1) (fun c5 =>
    lt (pI c5 174 102 0) (fun c7 =>
    some ((c7.1 174 91), c7))))))
theorem sp_126 {F Lo n : Nat} {a1 : Int32} {c y : cS} {w : cW} {K : Int32 × cS → Prop} {Q : ((Option Value) ⊕ String) → List va_E → Prop} (hw : rOK fm w) (hF : 7 ≤ F) (hLo : 176 ≤ Lo)  (h : wp (d_126 n a1 c) K) (hQ : ∀ r, K r → Q (.inl (some (.int r.1))) (hq false r.2 y w)) : rs (rt_P sc fm) 126 F Lo 0 [(0, .ref 174), (1, .int a1)] [] (hq false c y w) Q := by
  unfold d_126 at h
  obtain ⟨lv, elv⟩ : ∃ lv : rx_L, lv = [(0, .ref 174), (1, .int a1)] := ⟨_, rfl⟩
  rw [← elv]
  have l0 : rx_ld lv 0 = some (.ref 174) := by rw [elv]; rfl
  have l1 : rx_ld lv 1 = some (.int a1) := by rw [elv]; rfl
  refine rs_aldn wi_126_0 l0 ?_
  refine rs_pure wi_126_1 rfl ?_
  refine rs_topi (v := 0) (by decide) ?_
  obtain ⟨c1, e2, h⟩ := wp_lt h
  refine dq_pi wi_126_2 wp_126_356 tf_174_0 rfl rfl e2 ?_
  refine rs_aldn wi_126_5 l0 ?_
  refine rs_ildn wi_126_6 l1 ?_
  refine rs_V wi_126_7 wc_126_724 rfl (dq_isa tf_174_0 wa_15_119) (Nat.le_trans (by decide) hF) (ml_le wm_119 (Nat.le_trans (by decide) hLo)) rfl (sp_119 hw (Nat.le_trans (by decide : 0 ≤ 7 - 1) (Nat.sub_le_sub_right hF 1)) (ml_sub wm_119 (Nat.le_trans (by decide : 0 ≤ 176 - 21) (Nat.sub_le_sub_right hLo 21))) (wp_bind h) (fun v3 h => rs_back1 ?_))
  refine rs_ifne (tg := 15) wi_126_10 ⟨by decide, by decide⟩ (fun q => ?_) (fun q => ?_)
  ·
    have h := wp_neg h q
    refine rs_aldn wi_126_15 l0 ?_
    refine rs_ildn wi_126_16 l1 ?_
    refine rs_V wi_126_17 wc_126_871 rfl (dq_isa tf_174_0 wa_15_460) (Nat.le_trans (by decide) hF) (ml_le wm_460 (Nat.le_trans (by decide) hLo)) rfl (sp_460 hw (Nat.le_trans (by decide : 6 ≤ 7 - 1) (Nat.sub_le_sub_right hF 1)) (ml_sub wm_460 (Nat.le_trans (by decide : 149 ≤ 176 - 27) (Nat.sub_le_sub_right hLo 27))) (wp_bind h) (fun r4 h => rs_back0 ?_))
    refine rs_aldn wi_126_20 l0 ?_
    refine rs_ildn wi_126_21 l1 ?_
    obtain ⟨c5, e6, h⟩ := wp_lt h
    refine dq_pi wi_126_22 wp_126_292 tf_174_97 rfl rfl e6 ?_
    refine rs_aldn wi_126_25 l0 ?_
    refine rs_pure wi_126_26 rfl ?_
    refine rs_topi (v := 0) (by decide) ?_
    obtain ⟨c7, e8, h⟩ := wp_lt h
    refine dq_pi wi_126_27 wp_126_874 tf_174_102 rfl rfl e8 ?_
    refine rs_aldn wi_126_30 l0 ?_
    refine dq_gi wi_126_31 wf_126_859 tf_174_91 ?_
    exact rs_iret wi_126_34 wr_126 rfl (hQ ((c7.1 174 91), c7) h)
  ·
    have h := wp_pos h q
    refine rs_pure wi_126_13 rfl ?_
    refine rs_topi (v := (-1)) (by decide) ?_
    exact rs_iret wi_126_14 wr_126 rfl (hQ ((-1), c1) h)
theorem wc_127_661 : rx_ct (rt_P sc fm) 127 661 = some (1, 422, 1) := (by decide +kernel : rt_ct 127 661 = some (1, 422, 1))
theorem wf_127_277 : rx_ft (rt_P sc fm) 127 277 = some (15, 92) := (by decide +kernel : rt_ft 127 277 = some (15, 92))
theorem wf_127_280 : rx_ft (rt_P sc fm) 127 280 = some (15, 93) := (by decide +kernel : rt_ft 127 280 = some (15, 93))
theorem wf_127_283 : rx_ft (rt_P sc fm) 127 283 = some (15, 94) := (by decide +kernel : rt_ft 127 283 = some (15, 94))
theorem wf_127_286 : rx_ft (rt_P sc fm) 127 286 = some (15, 95) := (by decide +kernel : rt_ft 127 286 = some (15, 95))
theorem wf_127_289 : rx_ft (rt_P sc fm) 127 289 = some (15, 96) := (by decide +kernel : rt_ft 127 289 = some (15, 96))
theorem wf_127_292 : rx_ft (rt_P sc fm) 127 292 = some (15, 97) := (by decide +kernel : rt_ft 127 292 = some (15, 97))
theorem wf_127_859 : rx_ft (rt_P sc fm) 127 859 = some (15, 91) := (by decide +kernel : rt_ft 127 859 = some (15, 91))
theorem wi_127_0 : ri (rt_P sc fm) 127 0 (.aload_n 0) (1) := ri_of (by decide +kernel) rfl
theorem wi_127_1 : ri (rt_P sc fm) 127 1 (.iconst 0) (2) := ri_of (by decide +kernel) rfl
theorem wi_127_12 : ri (rt_P sc fm) 127 12 (.iload_n 1) (13) := ri_of (by decide +kernel) rfl
theorem wi_127_13 : ri (rt_P sc fm) 127 13 (.ifCond .lt 11) (16) := ri_of (by decide +kernel) rfl
theorem wi_127_16 : ri (rt_P sc fm) 127 16 (.iload_n 1) (17) := ri_of (by decide +kernel) rfl
theorem wi_127_17 : ri (rt_P sc fm) 127 17 (.aload_n 0) (18) := ri_of (by decide +kernel) rfl
theorem wi_127_18 : ri (rt_P sc fm) 127 18 (.getfield 859) (21) := ri_of (by decide +kernel) rfl
theorem wi_127_2 : ri (rt_P sc fm) 127 2 (.putfield 356) (5) := ri_of (by decide +kernel) rfl
theorem wi_127_21 : ri (rt_P sc fm) 127 21 (.if_icmp .lt 5) (24) := ri_of (by decide +kernel) rfl
theorem wi_127_24 : ri (rt_P sc fm) 127 24 (.iconst (-1)) (25) := ri_of (by decide +kernel) rfl
theorem wi_127_25 : ri (rt_P sc fm) 127 25 (.ireturn) (26) := ri_of (by decide +kernel) rfl
theorem wi_127_26 : ri (rt_P sc fm) 127 26 (.iload_n 2) (27) := ri_of (by decide +kernel) rfl
theorem wi_127_27 : ri (rt_P sc fm) 127 27 (.tableswitch 71 0 4 #[33, 43, 50, 57, 64]) (27 + rx_len (.tableswitch 71 0 4 #[33, 43, 50, 57, 64])) := ri_of (by decide +kernel) rfl
theorem wi_127_5 : ri (rt_P sc fm) 127 5 (.aload_n 0) (6) := ri_of (by decide +kernel) rfl
theorem wi_127_6 : ri (rt_P sc fm) 127 6 (.getfield 292) (9) := ri_of (by decide +kernel) rfl
theorem wi_127_60 : ri (rt_P sc fm) 127 60 (.aload_n 0) (61) := ri_of (by decide +kernel) rfl
theorem wi_127_61 : ri (rt_P sc fm) 127 61 (.getfield 277) (64) := ri_of (by decide +kernel) rfl
theorem wi_127_64 : ri (rt_P sc fm) 127 64 (.iload_n 1) (65) := ri_of (by decide +kernel) rfl
theorem wi_127_65 : ri (rt_P sc fm) 127 65 (.iaload) (66) := ri_of (by decide +kernel) rfl
theorem wi_127_66 : ri (rt_P sc fm) 127 66 (.invokestatic 661) (69) := ri_of (by decide +kernel) rfl
theorem wi_127_69 : ri (rt_P sc fm) 127 69 (.ireturn) (70) := ri_of (by decide +kernel) rfl
theorem wi_127_70 : ri (rt_P sc fm) 127 70 (.aload_n 0) (71) := ri_of (by decide +kernel) rfl
theorem wi_127_71 : ri (rt_P sc fm) 127 71 (.getfield 280) (74) := ri_of (by decide +kernel) rfl
theorem wi_127_74 : ri (rt_P sc fm) 127 74 (.iload_n 1) (75) := ri_of (by decide +kernel) rfl
theorem wi_127_75 : ri (rt_P sc fm) 127 75 (.iaload) (76) := ri_of (by decide +kernel) rfl
theorem wi_127_76 : ri (rt_P sc fm) 127 76 (.ireturn) (77) := ri_of (by decide +kernel) rfl
theorem wi_127_77 : ri (rt_P sc fm) 127 77 (.aload_n 0) (78) := ri_of (by decide +kernel) rfl
theorem wi_127_78 : ri (rt_P sc fm) 127 78 (.getfield 283) (81) := ri_of (by decide +kernel) rfl
theorem wi_127_81 : ri (rt_P sc fm) 127 81 (.iload_n 1) (82) := ri_of (by decide +kernel) rfl
theorem wi_127_82 : ri (rt_P sc fm) 127 82 (.iaload) (83) := ri_of (by decide +kernel) rfl
theorem wi_127_83 : ri (rt_P sc fm) 127 83 (.ireturn) (84) := ri_of (by decide +kernel) rfl
theorem wi_127_84 : ri (rt_P sc fm) 127 84 (.aload_n 0) (85) := ri_of (by decide +kernel) rfl
theorem wi_127_85 : ri (rt_P sc fm) 127 85 (.getfield 286) (88) := ri_of (by decide +kernel) rfl
theorem wi_127_88 : ri (rt_P sc fm) 127 88 (.iload_n 1) (89) := ri_of (by decide +kernel) rfl
theorem wi_127_89 : ri (rt_P sc fm) 127 89 (.iaload) (90) := ri_of (by decide +kernel) rfl
theorem wi_127_9 : ri (rt_P sc fm) 127 9 (.ifCond .lt 15) (12) := ri_of (by decide +kernel) rfl
theorem wi_127_90 : ri (rt_P sc fm) 127 90 (.ireturn) (91) := ri_of (by decide +kernel) rfl
theorem wi_127_91 : ri (rt_P sc fm) 127 91 (.aload_n 0) (92) := ri_of (by decide +kernel) rfl
theorem wi_127_92 : ri (rt_P sc fm) 127 92 (.getfield 289) (95) := ri_of (by decide +kernel) rfl
theorem wi_127_95 : ri (rt_P sc fm) 127 95 (.iload_n 1) (96) := ri_of (by decide +kernel) rfl
theorem wi_127_96 : ri (rt_P sc fm) 127 96 (.iaload) (97) := ri_of (by decide +kernel) rfl
theorem wi_127_97 : ri (rt_P sc fm) 127 97 (.ireturn) (98) := ri_of (by decide +kernel) rfl
theorem wi_127_98 : ri (rt_P sc fm) 127 98 (.iconst (-1)) (99) := ri_of (by decide +kernel) rfl
theorem wi_127_99 : ri (rt_P sc fm) 127 99 (.ireturn) (100) := ri_of (by decide +kernel) rfl
theorem wp_127_356 : rx_pt (rt_P sc fm) 127 356 = some (15, 0, .int) := (by decide +kernel : rt_pt 127 356 = some (15, 0, .int))
theorem wr_127 : rx_rt (rt_P sc fm) 127 = (some FieldType.int) := (by decide +kernel : rt_rt 127 = (some FieldType.int))
/-- MarkHouseModel.error(II)I -/
def d_127 (n : Nat) (a1 : Int32) (a2 : Int32) (c : cS) : Option (Int32 × cS) :=
  lt (pI c 174 0 0) (fun c1 =>
  jn (fun p3 : Unit =>
    some ((-1), c1))
  (fun j24 =>
  if (c1.1 174 97) < 0 then
    j24 ()
  else
    if a1 < 0 then
      j24 ()
    else
      if a1 < (c1.1 174 91) then
        if a2 = 0 then
          if ib a1 15360 then
          Option.bind (d_422 n (c1.1 241 (ix a1))) (fun v6 =>
          some (v6, c1))
          else none
        else
        if a2 = 1 then
          if ib a1 15360 then
          some ((c1.1 242 (ix a1)), c1)
          else none
        else
        if a2 = 2 then
          if ib a1 15360 then
          some ((c1.1 243 (ix a1)), c1)
          else none
        else
        if a2 = 3 then
          if ib a1 15360 then
          some ((c1.1 244 (ix a1)), c1)
          else none
        else
        if a2 = 4 then
          if ib a1 15360 then
          some ((c1.1 245 (ix a1)), c1)
          else none
        else
        some ((-1), c1)
      else
        j24 ()))
theorem sp_127 {F Lo n : Nat} {a1 : Int32} {a2 : Int32} {c y : cS} {w : cW} {K : Int32 × cS → Prop} {Q : ((Option Value) ⊕ String) → List va_E → Prop} (hw : rOK fm w) (hF : 1 ≤ F) (hLo : 20 ≤ Lo)  (h : wp (d_127 n a1 a2 c) K) (hQ : ∀ r, K r → Q (.inl (some (.int r.1))) (hq false r.2 y w)) : rs (rt_P sc fm) 127 F Lo 0 [(0, .ref 174), (1, .int a1), (2, .int a2)] [] (hq false c y w) Q := by
  unfold d_127 at h
  obtain ⟨lv, elv⟩ : ∃ lv : rx_L, lv = [(0, .ref 174), (1, .int a1), (2, .int a2)] := ⟨_, rfl⟩
  rw [← elv]
  have l0 : rx_ld lv 0 = some (.ref 174) := by rw [elv]; rfl
  have l1 : rx_ld lv 1 = some (.int a1) := by rw [elv]; rfl
  have l2 : rx_ld lv 2 = some (.int a2) := by rw [elv]; rfl
  refine rs_aldn wi_127_0 l0 ?_
  refine rs_pure wi_127_1 rfl ?_
  refine rs_topi (v := 0) (by decide) ?_
  obtain ⟨c1, e2, h⟩ := wp_lt h
  refine dq_pi wi_127_2 wp_127_356 tf_174_0 rfl rfl e2 ?_
  refine rs_aldn wi_127_5 l0 ?_
  refine dq_gi wi_127_6 wf_127_292 tf_174_97 ?_
  refine wp_jn (B := fun p3 : Unit => ∀ lv, rs (rt_P sc fm) 127 F Lo 24 lv [] (hq false c1 y w) Q) h (fun p3 h lv => ?_) (fun j24 hj24 h => ?_)
  ·
    refine rs_pure wi_127_24 rfl ?_
    refine rs_topi (v := (-1)) (by decide) ?_
    exact rs_iret wi_127_25 wr_127 rfl (hQ ((-1), c1) h)
  refine rs_iflt (tg := 24) wi_127_9 ⟨by decide, by decide⟩ (fun q => ?_) (fun q => ?_)
  ·
    have h := wp_pos h q
    exact hj24 _ h _
  ·
    have h := wp_neg h q
    refine rs_ildn wi_127_12 l1 ?_
    refine rs_iflt (tg := 24) wi_127_13 ⟨by decide, by decide⟩ (fun q => ?_) (fun q => ?_)
    ·
      have h := wp_pos h q
      exact hj24 _ h _
    ·
      have h := wp_neg h q
      refine rs_ildn wi_127_16 l1 ?_
      refine rs_aldn wi_127_17 l0 ?_
      refine dq_gi wi_127_18 wf_127_859 tf_174_91 ?_
      refine rs_iclt (tg := 26) wi_127_21 ⟨by decide, by decide⟩ (fun q => ?_) (fun q => ?_)
      ·
        have h := wp_pos h q
        refine rs_ildn wi_127_26 l2 ?_
        by_cases q4 : a2 = 0
        ·
          have h := wp_pos h q4
          refine rs_tsk (tg := 60) (off := 33) (v := 0) wi_127_27 q4 (by decide) (by decide) ⟨by decide, by decide⟩ ?_
          refine rs_aldn wi_127_60 l0 ?_
          refine dq_gr wi_127_61 wf_127_277 tf_174_92 ?_
          refine rs_ildn wi_127_64 l1 ?_
          obtain ⟨g5, h⟩ := wp_gd h
          refine dq_iald wi_127_65 t_241 g5 ?_
          refine rs_S wi_127_66 wc_127_661 (Or.inl rfl) rfl (Nat.le_trans (by decide) hF) (ml_le wm_422 (Nat.le_trans (by decide) hLo)) rfl (sp_422 (Nat.le_trans (by decide : 0 ≤ 1 - 1) (Nat.sub_le_sub_right hF 1)) (ml_sub wm_422 (Nat.le_trans (by decide : 0 ≤ 20 - 20) (Nat.sub_le_sub_right hLo 20))) (wp_bind h) (fun v6 h => rs_back1 ?_))
          exact rs_iret wi_127_69 wr_127 rfl (hQ (v6, c1) h)
        have h := wp_neg h q4
        by_cases q7 : a2 = 1
        ·
          have h := wp_pos h q7
          refine rs_tsk (tg := 70) (off := 43) (v := 1) wi_127_27 q7 (by decide) (by decide) ⟨by decide, by decide⟩ ?_
          refine rs_aldn wi_127_70 l0 ?_
          refine dq_gr wi_127_71 wf_127_280 tf_174_93 ?_
          refine rs_ildn wi_127_74 l1 ?_
          obtain ⟨g8, h⟩ := wp_gd h
          refine dq_iald wi_127_75 t_242 g8 ?_
          exact rs_iret wi_127_76 wr_127 rfl (hQ ((c1.1 242 (ix a1)), c1) h)
        have h := wp_neg h q7
        by_cases q9 : a2 = 2
        ·
          have h := wp_pos h q9
          refine rs_tsk (tg := 77) (off := 50) (v := 2) wi_127_27 q9 (by decide) (by decide) ⟨by decide, by decide⟩ ?_
          refine rs_aldn wi_127_77 l0 ?_
          refine dq_gr wi_127_78 wf_127_283 tf_174_94 ?_
          refine rs_ildn wi_127_81 l1 ?_
          obtain ⟨g10, h⟩ := wp_gd h
          refine dq_iald wi_127_82 t_243 g10 ?_
          exact rs_iret wi_127_83 wr_127 rfl (hQ ((c1.1 243 (ix a1)), c1) h)
        have h := wp_neg h q9
        by_cases q11 : a2 = 3
        ·
          have h := wp_pos h q11
          refine rs_tsk (tg := 84) (off := 57) (v := 3) wi_127_27 q11 (by decide) (by decide) ⟨by decide, by decide⟩ ?_
          refine rs_aldn wi_127_84 l0 ?_
          refine dq_gr wi_127_85 wf_127_286 tf_174_95 ?_
          refine rs_ildn wi_127_88 l1 ?_
          obtain ⟨g12, h⟩ := wp_gd h
          refine dq_iald wi_127_89 t_244 g12 ?_
          exact rs_iret wi_127_90 wr_127 rfl (hQ ((c1.1 244 (ix a1)), c1) h)
        have h := wp_neg h q11
        by_cases q13 : a2 = 4
        ·
          have h := wp_pos h q13
          refine rs_tsk (tg := 91) (off := 64) (v := 4) wi_127_27 q13 (by decide) (by decide) ⟨by decide, by decide⟩ ?_
          refine rs_aldn wi_127_91 l0 ?_
          refine dq_gr wi_127_92 wf_127_289 tf_174_96 ?_
          refine rs_ildn wi_127_95 l1 ?_
          obtain ⟨g14, h⟩ := wp_gd h
          refine dq_iald wi_127_96 t_245 g14 ?_
          exact rs_iret wi_127_97 wr_127 rfl (hQ ((c1.1 245 (ix a1)), c1) h)
        have h := wp_neg h q13
        refine rs_tsd (tg := 98) wi_127_27 (rz_sw fun k k1 k2 => by
          have kk : k = 0 ∨ k = 1 ∨ k = 2 ∨ k = 3 ∨ k = 4 := by omega
          rcases kk with rfl | rfl | rfl | rfl | rfl
          · exact q4
          · exact q7
          · exact q9
          · exact q11
          · exact q13
          ) ⟨by decide, by decide⟩ ?_
        refine rs_pure wi_127_98 rfl ?_
        refine rs_topi (v := (-1)) (by decide) ?_
        exact rs_iret wi_127_99 wr_127 rfl (hQ ((-1), c1) h)
      ·
        have h := wp_neg h q
        exact hj24 _ h _
theorem wc_128_658 : rx_ct (rt_P sc fm) 128 658 = some (1, 421, 1) := (by decide +kernel : rt_ct 128 658 = some (1, 421, 1))
theorem wc_128_721 : rx_ct (rt_P sc fm) 128 721 = some (0, 111, 1) := (by decide +kernel : rt_ct 128 721 = some (0, 111, 1))
theorem wf_128_176 : rx_ft (rt_P sc fm) 128 176 = some (15, 46) := (by decide +kernel : rt_ft 128 176 = some (15, 46))
theorem wf_128_182 : rx_ft (rt_P sc fm) 128 182 = some (15, 48) := (by decide +kernel : rt_ft 128 182 = some (15, 48))
theorem wf_128_243 : rx_ft (rt_P sc fm) 128 243 = some (15, 70) := (by decide +kernel : rt_ft 128 243 = some (15, 70))
theorem wf_128_268 : rx_ft (rt_P sc fm) 128 268 = some (15, 87) := (by decide +kernel : rt_ft 128 268 = some (15, 87))
theorem wf_128_271 : rx_ft (rt_P sc fm) 128 271 = some (15, 88) := (by decide +kernel : rt_ft 128 271 = some (15, 88))
theorem wf_128_292 : rx_ft (rt_P sc fm) 128 292 = some (15, 97) := (by decide +kernel : rt_ft 128 292 = some (15, 97))
theorem wi_128_0 : ri (rt_P sc fm) 128 0 (.aload_n 0) (1) := ri_of (by decide +kernel) rfl
theorem wi_128_1 : ri (rt_P sc fm) 128 1 (.iconst 0) (2) := ri_of (by decide +kernel) rfl
theorem wi_128_101 : ri (rt_P sc fm) 128 101 (.iload 5) (103) := ri_of (by decide +kernel) rfl
theorem wi_128_103 : ri (rt_P sc fm) 128 103 (.iaload) (104) := ri_of (by decide +kernel) rfl
theorem wi_128_104 : ri (rt_P sc fm) 128 104 (.if_icmp .lt 5) (107) := ri_of (by decide +kernel) rfl
theorem wi_128_107 : ri (rt_P sc fm) 128 107 (.iconst (-1)) (108) := ri_of (by decide +kernel) rfl
theorem wi_128_108 : ri (rt_P sc fm) 128 108 (.ireturn) (109) := ri_of (by decide +kernel) rfl
theorem wi_128_109 : ri (rt_P sc fm) 128 109 (.aload_n 0) (110) := ri_of (by decide +kernel) rfl
theorem wi_128_110 : ri (rt_P sc fm) 128 110 (.getfield 268) (113) := ri_of (by decide +kernel) rfl
theorem wi_128_113 : ri (rt_P sc fm) 128 113 (.bipush 16) (115) := ri_of (by decide +kernel) rfl
theorem wi_128_115 : ri (rt_P sc fm) 128 115 (.iload 5) (117) := ri_of (by decide +kernel) rfl
theorem wi_128_117 : ri (rt_P sc fm) 128 117 (.imul) (118) := ri_of (by decide +kernel) rfl
theorem wi_128_118 : ri (rt_P sc fm) 128 118 (.iload_n 3) (119) := ri_of (by decide +kernel) rfl
theorem wi_128_119 : ri (rt_P sc fm) 128 119 (.iadd) (120) := ri_of (by decide +kernel) rfl
theorem wi_128_12 : ri (rt_P sc fm) 128 12 (.aload_n 0) (13) := ri_of (by decide +kernel) rfl
theorem wi_128_120 : ri (rt_P sc fm) 128 120 (.iaload) (121) := ri_of (by decide +kernel) rfl
theorem wi_128_121 : ri (rt_P sc fm) 128 121 (.ireturn) (122) := ri_of (by decide +kernel) rfl
theorem wi_128_13 : ri (rt_P sc fm) 128 13 (.iload_n 1) (14) := ri_of (by decide +kernel) rfl
theorem wi_128_14 : ri (rt_P sc fm) 128 14 (.invokevirtual 721) (17) := ri_of (by decide +kernel) rfl
theorem wi_128_17 : ri (rt_P sc fm) 128 17 (.ifCond .eq 7) (20) := ri_of (by decide +kernel) rfl
theorem wi_128_2 : ri (rt_P sc fm) 128 2 (.putfield 356) (5) := ri_of (by decide +kernel) rfl
theorem wi_128_20 : ri (rt_P sc fm) 128 20 (.iload_n 3) (21) := ri_of (by decide +kernel) rfl
theorem wi_128_21 : ri (rt_P sc fm) 128 21 (.ifCond .ge 5) (24) := ri_of (by decide +kernel) rfl
theorem wi_128_24 : ri (rt_P sc fm) 128 24 (.iconst (-1)) (25) := ri_of (by decide +kernel) rfl
theorem wi_128_25 : ri (rt_P sc fm) 128 25 (.ireturn) (26) := ri_of (by decide +kernel) rfl
theorem wi_128_26 : ri (rt_P sc fm) 128 26 (.iload_n 1) (27) := ri_of (by decide +kernel) rfl
theorem wi_128_27 : ri (rt_P sc fm) 128 27 (.invokestatic 658) (30) := ri_of (by decide +kernel) rfl
theorem wi_128_30 : ri (rt_P sc fm) 128 30 (.istore 4) (32) := ri_of (by decide +kernel) rfl
theorem wi_128_32 : ri (rt_P sc fm) 128 32 (.iload_n 2) (33) := ri_of (by decide +kernel) rfl
theorem wi_128_33 : ri (rt_P sc fm) 128 33 (.ifCond .lt 29) (36) := ri_of (by decide +kernel) rfl
theorem wi_128_36 : ri (rt_P sc fm) 128 36 (.iload_n 2) (37) := ri_of (by decide +kernel) rfl
theorem wi_128_37 : ri (rt_P sc fm) 128 37 (.aload_n 0) (38) := ri_of (by decide +kernel) rfl
theorem wi_128_38 : ri (rt_P sc fm) 128 38 (.getfield 182) (41) := ri_of (by decide +kernel) rfl
theorem wi_128_41 : ri (rt_P sc fm) 128 41 (.iload 4) (43) := ri_of (by decide +kernel) rfl
theorem wi_128_43 : ri (rt_P sc fm) 128 43 (.iaload) (44) := ri_of (by decide +kernel) rfl
theorem wi_128_44 : ri (rt_P sc fm) 128 44 (.if_icmp .ge 18) (47) := ri_of (by decide +kernel) rfl
theorem wi_128_47 : ri (rt_P sc fm) 128 47 (.aload_n 0) (48) := ri_of (by decide +kernel) rfl
theorem wi_128_48 : ri (rt_P sc fm) 128 48 (.getfield 271) (51) := ri_of (by decide +kernel) rfl
theorem wi_128_5 : ri (rt_P sc fm) 128 5 (.aload_n 0) (6) := ri_of (by decide +kernel) rfl
theorem wi_128_51 : ri (rt_P sc fm) 128 51 (.bipush 40) (53) := ri_of (by decide +kernel) rfl
theorem wi_128_53 : ri (rt_P sc fm) 128 53 (.iload 4) (55) := ri_of (by decide +kernel) rfl
theorem wi_128_55 : ri (rt_P sc fm) 128 55 (.imul) (56) := ri_of (by decide +kernel) rfl
theorem wi_128_56 : ri (rt_P sc fm) 128 56 (.iload_n 2) (57) := ri_of (by decide +kernel) rfl
theorem wi_128_57 : ri (rt_P sc fm) 128 57 (.iadd) (58) := ri_of (by decide +kernel) rfl
theorem wi_128_58 : ri (rt_P sc fm) 128 58 (.baload) (59) := ri_of (by decide +kernel) rfl
theorem wi_128_59 : ri (rt_P sc fm) 128 59 (.ifCond .ne 5) (62) := ri_of (by decide +kernel) rfl
theorem wi_128_6 : ri (rt_P sc fm) 128 6 (.getfield 292) (9) := ri_of (by decide +kernel) rfl
theorem wi_128_62 : ri (rt_P sc fm) 128 62 (.iconst (-1)) (63) := ri_of (by decide +kernel) rfl
theorem wi_128_63 : ri (rt_P sc fm) 128 63 (.ireturn) (64) := ri_of (by decide +kernel) rfl
theorem wi_128_64 : ri (rt_P sc fm) 128 64 (.bipush 40) (66) := ri_of (by decide +kernel) rfl
theorem wi_128_66 : ri (rt_P sc fm) 128 66 (.iload 4) (68) := ri_of (by decide +kernel) rfl
theorem wi_128_68 : ri (rt_P sc fm) 128 68 (.imul) (69) := ri_of (by decide +kernel) rfl
theorem wi_128_69 : ri (rt_P sc fm) 128 69 (.iload_n 2) (70) := ri_of (by decide +kernel) rfl
theorem wi_128_70 : ri (rt_P sc fm) 128 70 (.iadd) (71) := ri_of (by decide +kernel) rfl
theorem wi_128_71 : ri (rt_P sc fm) 128 71 (.istore 5) (73) := ri_of (by decide +kernel) rfl
theorem wi_128_73 : ri (rt_P sc fm) 128 73 (.iload_n 3) (74) := ri_of (by decide +kernel) rfl
theorem wi_128_74 : ri (rt_P sc fm) 128 74 (.bipush 8) (76) := ri_of (by decide +kernel) rfl
theorem wi_128_76 : ri (rt_P sc fm) 128 76 (.if_icmp .ge 17) (79) := ri_of (by decide +kernel) rfl
theorem wi_128_79 : ri (rt_P sc fm) 128 79 (.iload_n 3) (80) := ri_of (by decide +kernel) rfl
theorem wi_128_80 : ri (rt_P sc fm) 128 80 (.aload_n 0) (81) := ri_of (by decide +kernel) rfl
theorem wi_128_81 : ri (rt_P sc fm) 128 81 (.getfield 176) (84) := ri_of (by decide +kernel) rfl
theorem wi_128_84 : ri (rt_P sc fm) 128 84 (.iload 4) (86) := ri_of (by decide +kernel) rfl
theorem wi_128_86 : ri (rt_P sc fm) 128 86 (.iaload) (87) := ri_of (by decide +kernel) rfl
theorem wi_128_87 : ri (rt_P sc fm) 128 87 (.if_icmp .lt 22) (90) := ri_of (by decide +kernel) rfl
theorem wi_128_9 : ri (rt_P sc fm) 128 9 (.ifCond .lt 15) (12) := ri_of (by decide +kernel) rfl
theorem wi_128_90 : ri (rt_P sc fm) 128 90 (.goto 17) (93) := ri_of (by decide +kernel) rfl
theorem wi_128_93 : ri (rt_P sc fm) 128 93 (.iload_n 3) (94) := ri_of (by decide +kernel) rfl
theorem wi_128_94 : ri (rt_P sc fm) 128 94 (.bipush 8) (96) := ri_of (by decide +kernel) rfl
theorem wi_128_96 : ri (rt_P sc fm) 128 96 (.isub) (97) := ri_of (by decide +kernel) rfl
theorem wi_128_97 : ri (rt_P sc fm) 128 97 (.aload_n 0) (98) := ri_of (by decide +kernel) rfl
theorem wi_128_98 : ri (rt_P sc fm) 128 98 (.getfield 243) (101) := ri_of (by decide +kernel) rfl
theorem wp_128_356 : rx_pt (rt_P sc fm) 128 356 = some (15, 0, .int) := (by decide +kernel : rt_pt 128 356 = some (15, 0, .int))
theorem wr_128 : rx_rt (rt_P sc fm) 128 = (some FieldType.int) := (by decide +kernel : rt_rt 128 = (some FieldType.int))
/-- MarkHouseModel.state(III)I -/
def d_128 (n : Nat) (a1 : Int32) (a2 : Int32) (a3 : Int32) (c : cS) : Option (Int32 × cS) :=
  lt (pI c 174 0 0) (fun c1 =>
  jn (fun p3 : Unit =>
    some ((-1), c1))
  (fun j24 =>
  if (c1.1 174 97) < 0 then
    j24 ()
  else
    Option.bind (d_111 n a1 c1) (fun v4 =>
    if v4 = 0 then
      j24 ()
    else
      if 0 ≤ a3 then
        Option.bind (d_421 n a1) (fun v5 =>
        jn (fun p7 : Unit =>
          some ((-1), c1))
        (fun j62 =>
        if a2 < 0 then
          j62 ()
        else
          if ib v5 96 then
          if (c1.1 210 (ix v5)) ≤ a2 then
            j62 ()
          else
            if ib ((40 * v5) + a2) 3840 then
            if (c1.1 239 (ix ((40 * v5) + a2))) = 0 then
              j62 ()
            else
              lt (((40 * v5) + a2) : Int32) (fun v11 =>
              jn (fun p13 : Unit =>
                if ib ((16 * v11) + a3) 61440 then
                some ((c1.1 238 (ix ((16 * v11) + a3))), c1)
                else none)
              (fun j109 =>
              jn (fun p15 : Unit =>
                some ((-1), c1))
              (fun j107 =>
              if 8 ≤ a3 then
                if ib v11 3840 then
                if (a3 - 8) < (c1.1 230 (ix v11)) then
                  j109 ()
                else
                  j107 ()
                else none
              else
                if ib v5 96 then
                if a3 < (c1.1 208 (ix v5)) then
                  j109 ()
                else
                  j107 ()
                else none)))
            else none
          else none))
      else
        j24 ())))
theorem sp_128 {F Lo n : Nat} {a1 : Int32} {a2 : Int32} {a3 : Int32} {c y : cS} {w : cW} {K : Int32 × cS → Prop} {Q : ((Option Value) ⊕ String) → List va_E → Prop} (hw : rOK fm w) (hF : 2 ≤ F) (hLo : 45 ≤ Lo)  (h : wp (d_128 n a1 a2 a3 c) K) (hQ : ∀ r, K r → Q (.inl (some (.int r.1))) (hq false r.2 y w)) : rs (rt_P sc fm) 128 F Lo 0 [(0, .ref 174), (1, .int a1), (2, .int a2), (3, .int a3)] [] (hq false c y w) Q := by
  unfold d_128 at h
  obtain ⟨lv, elv⟩ : ∃ lv : rx_L, lv = [(0, .ref 174), (1, .int a1), (2, .int a2), (3, .int a3)] := ⟨_, rfl⟩
  rw [← elv]
  have l0 : rx_ld lv 0 = some (.ref 174) := by rw [elv]; rfl
  have l1 : rx_ld lv 1 = some (.int a1) := by rw [elv]; rfl
  have l2 : rx_ld lv 2 = some (.int a2) := by rw [elv]; rfl
  have l3 : rx_ld lv 3 = some (.int a3) := by rw [elv]; rfl
  refine rs_aldn wi_128_0 l0 ?_
  refine rs_pure wi_128_1 rfl ?_
  refine rs_topi (v := 0) (by decide) ?_
  obtain ⟨c1, e2, h⟩ := wp_lt h
  refine dq_pi wi_128_2 wp_128_356 tf_174_0 rfl rfl e2 ?_
  refine rs_aldn wi_128_5 l0 ?_
  refine dq_gi wi_128_6 wf_128_292 tf_174_97 ?_
  refine wp_jn (B := fun p3 : Unit => ∀ lv, rs (rt_P sc fm) 128 F Lo 24 lv [] (hq false c1 y w) Q) h (fun p3 h lv => ?_) (fun j24 hj24 h => ?_)
  ·
    refine rs_pure wi_128_24 rfl ?_
    refine rs_topi (v := (-1)) (by decide) ?_
    exact rs_iret wi_128_25 wr_128 rfl (hQ ((-1), c1) h)
  refine rs_iflt (tg := 24) wi_128_9 ⟨by decide, by decide⟩ (fun q => ?_) (fun q => ?_)
  ·
    have h := wp_pos h q
    exact hj24 _ h _
  ·
    have h := wp_neg h q
    refine rs_aldn wi_128_12 l0 ?_
    refine rs_ildn wi_128_13 l1 ?_
    refine rs_V wi_128_14 wc_128_721 rfl (dq_isa tf_174_0 wa_15_111) (Nat.le_trans (by decide) hF) (ml_le wm_111 (Nat.le_trans (by decide) hLo)) rfl (sp_111 hw (Nat.le_trans (by decide : 1 ≤ 2 - 1) (Nat.sub_le_sub_right hF 1)) (ml_sub wm_111 (Nat.le_trans (by decide : 24 ≤ 45 - 21) (Nat.sub_le_sub_right hLo 21))) (wp_bind h) (fun v4 h => rs_back1 ?_))
    refine rs_ifeq (tg := 24) wi_128_17 ⟨by decide, by decide⟩ (fun q => ?_) (fun q => ?_)
    ·
      have h := wp_pos h q
      exact hj24 _ h _
    ·
      have h := wp_neg h q
      refine rs_ildn wi_128_20 l3 ?_
      refine rs_ifge (tg := 26) wi_128_21 ⟨by decide, by decide⟩ (fun q => ?_) (fun q => ?_)
      ·
        have h := wp_pos h q
        refine rs_ildn wi_128_26 l1 ?_
        refine rs_S wi_128_27 wc_128_658 (Or.inl rfl) rfl (Nat.le_trans (by decide) hF) (ml_le wm_421 (Nat.le_trans (by decide) hLo)) rfl (sp_421 (Nat.le_trans (by decide : 0 ≤ 2 - 1) (Nat.sub_le_sub_right hF 1)) (ml_sub wm_421 (Nat.le_trans (by decide : 0 ≤ 45 - 20) (Nat.sub_le_sub_right hLo 20))) (wp_bind h) (fun v5 h => rs_back1 ?_))
        refine dl_ist wi_128_30 rfl (fun lv l4 t6 => ?_)
        have l0 := t6 _ _ (by decide) (Or.inl rfl) l0
        have l2 := t6 _ _ (by decide) (Or.inl rfl) l2
        have l3 := t6 _ _ (by decide) (Or.inl rfl) l3
        refine rs_ildn wi_128_32 l2 ?_
        refine wp_jn (B := fun p7 : Unit => ∀ lv, rs (rt_P sc fm) 128 F Lo 62 lv [] (hq false c1 y w) Q) h (fun p7 h lv => ?_) (fun j62 hj62 h => ?_)
        ·
          refine rs_pure wi_128_62 rfl ?_
          refine rs_topi (v := (-1)) (by decide) ?_
          exact rs_iret wi_128_63 wr_128 rfl (hQ ((-1), c1) h)
        refine rs_iflt (tg := 62) wi_128_33 ⟨by decide, by decide⟩ (fun q => ?_) (fun q => ?_)
        ·
          have h := wp_pos h q
          exact hj62 _ h _
        ·
          have h := wp_neg h q
          refine rs_ildn wi_128_36 l2 ?_
          refine rs_aldn wi_128_37 l0 ?_
          refine dq_gr wi_128_38 wf_128_182 tf_174_48 ?_
          refine rs_ild wi_128_41 l4 ?_
          obtain ⟨g8, h⟩ := wp_gd h
          refine dq_iald wi_128_43 t_210 g8 ?_
          refine rs_icge (tg := 62) wi_128_44 ⟨by decide, by decide⟩ (fun q => ?_) (fun q => ?_)
          ·
            have h := wp_pos h q
            exact hj62 _ h _
          ·
            have h := wp_neg h q
            refine rs_aldn wi_128_47 l0 ?_
            refine dq_gr wi_128_48 wf_128_271 tf_174_88 ?_
            refine rs_pure wi_128_51 rfl ?_
            refine rs_topi (v := 40) (by decide) ?_
            refine rs_ild wi_128_53 l4 ?_
            refine rs_pure wi_128_55 rfl ?_
            refine rs_ildn wi_128_56 l2 ?_
            refine rs_pure wi_128_57 rfl ?_
            obtain ⟨g9, h⟩ := wp_gd h
            refine dq_zald wi_128_58 t_239 g9 ?_
            refine rs_ifne (tg := 64) wi_128_59 ⟨by decide, by decide⟩ (fun q => ?_) (fun q => ?_)
            ·
              have h := wp_neg h q
              refine rs_pure wi_128_64 rfl ?_
              refine rs_topi (v := 40) (by decide) ?_
              refine rs_ild wi_128_66 l4 ?_
              refine rs_pure wi_128_68 rfl ?_
              refine rs_ildn wi_128_69 l2 ?_
              refine rs_pure wi_128_70 rfl ?_
              obtain ⟨v11, e12, h⟩ := wp_lt h
              refine rs_topi e12 ?_
              refine dl_ist wi_128_71 rfl (fun lv l5 t10 => ?_)
              have l0 := t10 _ _ (by decide) (Or.inl rfl) l0
              have l3 := t10 _ _ (by decide) (Or.inl rfl) l3
              have l4 := t10 _ _ (by decide) (Or.inl rfl) l4
              refine rs_ildn wi_128_73 l3 ?_
              refine rs_pure wi_128_74 rfl ?_
              refine rs_topi (v := 8) (by decide) ?_
              refine wp_jn (B := fun p13 : Unit => ∀ lv, rx_ld lv 0 = some (.ref 174) → rx_ld lv 3 = some (.int a3) → rx_ld lv 5 = some (.int v11) → rs (rt_P sc fm) 128 F Lo 109 lv [] (hq false c1 y w) Q) h (fun p13 h lv l0 l3 l5 => ?_) (fun j109 hj109 h => ?_)
              ·
                refine rs_aldn wi_128_109 l0 ?_
                refine dq_gr wi_128_110 wf_128_268 tf_174_87 ?_
                refine rs_pure wi_128_113 rfl ?_
                refine rs_topi (v := 16) (by decide) ?_
                refine rs_ild wi_128_115 l5 ?_
                refine rs_pure wi_128_117 rfl ?_
                refine rs_ildn wi_128_118 l3 ?_
                refine rs_pure wi_128_119 rfl ?_
                obtain ⟨g14, h⟩ := wp_gd h
                refine dq_iald wi_128_120 t_238 g14 ?_
                exact rs_iret wi_128_121 wr_128 rfl (hQ ((c1.1 238 (ix ((16 * v11) + a3))), c1) h)
              refine wp_jn (B := fun p15 : Unit => ∀ lv, rs (rt_P sc fm) 128 F Lo 107 lv [] (hq false c1 y w) Q) h (fun p15 h lv => ?_) (fun j107 hj107 h => ?_)
              ·
                refine rs_pure wi_128_107 rfl ?_
                refine rs_topi (v := (-1)) (by decide) ?_
                exact rs_iret wi_128_108 wr_128 rfl (hQ ((-1), c1) h)
              refine rs_icge (tg := 93) wi_128_76 ⟨by decide, by decide⟩ (fun q => ?_) (fun q => ?_)
              ·
                have h := wp_pos h q
                refine rs_ildn wi_128_93 l3 ?_
                refine rs_pure wi_128_94 rfl ?_
                refine rs_topi (v := 8) (by decide) ?_
                refine rs_pure wi_128_96 rfl ?_
                refine rs_aldn wi_128_97 l0 ?_
                refine dq_gr wi_128_98 wf_128_243 tf_174_70 ?_
                refine rs_ild wi_128_101 l5 ?_
                obtain ⟨g16, h⟩ := wp_gd h
                refine dq_iald wi_128_103 t_230 g16 ?_
                refine rs_iclt (tg := 109) wi_128_104 ⟨by decide, by decide⟩ (fun q => ?_) (fun q => ?_)
                ·
                  have h := wp_pos h q
                  exact hj109 _ h _ l0 l3 l5
                ·
                  have h := wp_neg h q
                  exact hj107 _ h _
              ·
                have h := wp_neg h q
                refine rs_ildn wi_128_79 l3 ?_
                refine rs_aldn wi_128_80 l0 ?_
                refine dq_gr wi_128_81 wf_128_176 tf_174_46 ?_
                refine rs_ild wi_128_84 l4 ?_
                obtain ⟨g17, h⟩ := wp_gd h
                refine dq_iald wi_128_86 t_208 g17 ?_
                refine rs_iclt (tg := 109) wi_128_87 ⟨by decide, by decide⟩ (fun q => ?_) (fun q => ?_)
                ·
                  have h := wp_pos h q
                  exact hj109 _ h _ l0 l3 l5
                ·
                  have h := wp_neg h q
                  refine rs_goto (tg := 107) wi_128_90 ⟨by decide, by decide⟩ ?_
                  exact hj107 _ h _
            ·
              have h := wp_pos h q
              exact hj62 _ h _
      ·
        have h := wp_neg h q
        exact hj24 _ h _
theorem t_246 : ta false 246 0 400 := ⟨rfl, by decide, by decide⟩
theorem t_247 : ta false 247 0 400 := ⟨rfl, by decide, by decide⟩
theorem t_248 : ta false 248 0 6400 := ⟨rfl, by decide, by decide⟩
theorem tf_174_100 : fo false 174 15 100 (.ref 248) := ⟨_, rfl, rfl, by decide, by decide⟩
theorem tf_174_101 : fo false 174 15 101 (.int 0) := ⟨_, rfl, rfl, by decide, by decide⟩
theorem tf_174_104 : fo false 174 15 104 (.int 0) := ⟨_, rfl, rfl, by decide, by decide⟩
theorem tf_174_105 : fo false 174 15 105 (.int 0) := ⟨_, rfl, rfl, by decide, by decide⟩
theorem tf_174_98 : fo false 174 15 98 (.ref 246) := ⟨_, rfl, rfl, by decide, by decide⟩
theorem tf_174_99 : fo false 174 15 99 (.ref 247) := ⟨_, rfl, rfl, by decide, by decide⟩
theorem wc_461_535 : rx_ct (rt_P sc fm) 461 535 = some (0, 387, 3) := (by decide +kernel : rt_ct 461 535 = some (0, 387, 3))
theorem wc_461_865 : rx_ct (rt_P sc fm) 461 865 = some (0, 459, 2) := (by decide +kernel : rt_ct 461 865 = some (0, 459, 2))
theorem wf_461_243 : rx_ft (rt_P sc fm) 461 243 = some (15, 70) := (by decide +kernel : rt_ft 461 243 = some (15, 70))
theorem wf_461_274 : rx_ft (rt_P sc fm) 461 274 = some (15, 89) := (by decide +kernel : rt_ft 461 274 = some (15, 89))
theorem wf_461_280 : rx_ft (rt_P sc fm) 461 280 = some (15, 93) := (by decide +kernel : rt_ft 461 280 = some (15, 93))
theorem wf_461_283 : rx_ft (rt_P sc fm) 461 283 = some (15, 94) := (by decide +kernel : rt_ft 461 283 = some (15, 94))
theorem wf_461_289 : rx_ft (rt_P sc fm) 461 289 = some (15, 96) := (by decide +kernel : rt_ft 461 289 = some (15, 96))
theorem wf_461_292 : rx_ft (rt_P sc fm) 461 292 = some (15, 97) := (by decide +kernel : rt_ft 461 292 = some (15, 97))
theorem wf_461_296 : rx_ft (rt_P sc fm) 461 296 = some (15, 98) := (by decide +kernel : rt_ft 461 296 = some (15, 98))
theorem wf_461_299 : rx_ft (rt_P sc fm) 461 299 = some (15, 99) := (by decide +kernel : rt_ft 461 299 = some (15, 99))
theorem wf_461_302 : rx_ft (rt_P sc fm) 461 302 = some (15, 100) := (by decide +kernel : rt_ft 461 302 = some (15, 100))
theorem wf_461_877 : rx_ft (rt_P sc fm) 461 877 = some (15, 101) := (by decide +kernel : rt_ft 461 877 = some (15, 101))
theorem wi_461_0 : ri (rt_P sc fm) 461 0 (.bipush 40) (2) := ri_of (by decide +kernel) rfl
theorem wi_461_10 : ri (rt_P sc fm) 461 10 (.aload_n 0) (11) := ri_of (by decide +kernel) rfl
theorem wi_461_101 : ri (rt_P sc fm) 461 101 (.iload 8) (103) := ri_of (by decide +kernel) rfl
theorem wi_461_103 : ri (rt_P sc fm) 461 103 (.ifCond .eq 4) (106) := ri_of (by decide +kernel) rfl
theorem wi_461_106 : ri (rt_P sc fm) 461 106 (.return_) (107) := ri_of (by decide +kernel) rfl
theorem wi_461_107 : ri (rt_P sc fm) 461 107 (.iinc 7 1) (110) := ri_of (by decide +kernel) rfl
theorem wi_461_11 : ri (rt_P sc fm) 461 11 (.getfield 243) (14) := ri_of (by decide +kernel) rfl
theorem wi_461_110 : ri (rt_P sc fm) 461 110 (.goto (-87)) (113) := ri_of (by decide +kernel) rfl
theorem wi_461_113 : ri (rt_P sc fm) 461 113 (.aload_n 0) (114) := ri_of (by decide +kernel) rfl
theorem wi_461_114 : ri (rt_P sc fm) 461 114 (.getfield 877) (117) := ri_of (by decide +kernel) rfl
theorem wi_461_117 : ri (rt_P sc fm) 461 117 (.sipush 400) (120) := ri_of (by decide +kernel) rfl
theorem wi_461_120 : ri (rt_P sc fm) 461 120 (.if_icmp .ne 9) (123) := ri_of (by decide +kernel) rfl
theorem wi_461_123 : ri (rt_P sc fm) 461 123 (.aload_n 0) (124) := ri_of (by decide +kernel) rfl
theorem wi_461_124 : ri (rt_P sc fm) 461 124 (.iconst 1) (125) := ri_of (by decide +kernel) rfl
theorem wi_461_125 : ri (rt_P sc fm) 461 125 (.putfield 880) (128) := ri_of (by decide +kernel) rfl
theorem wi_461_128 : ri (rt_P sc fm) 461 128 (.return_) (129) := ri_of (by decide +kernel) rfl
theorem wi_461_129 : ri (rt_P sc fm) 461 129 (.aload_n 0) (130) := ri_of (by decide +kernel) rfl
theorem wi_461_130 : ri (rt_P sc fm) 461 130 (.getfield 296) (133) := ri_of (by decide +kernel) rfl
theorem wi_461_133 : ri (rt_P sc fm) 461 133 (.aload_n 0) (134) := ri_of (by decide +kernel) rfl
theorem wi_461_134 : ri (rt_P sc fm) 461 134 (.getfield 877) (137) := ri_of (by decide +kernel) rfl
theorem wi_461_137 : ri (rt_P sc fm) 461 137 (.iload_n 2) (138) := ri_of (by decide +kernel) rfl
theorem wi_461_138 : ri (rt_P sc fm) 461 138 (.iastore) (139) := ri_of (by decide +kernel) rfl
theorem wi_461_139 : ri (rt_P sc fm) 461 139 (.aload_n 0) (140) := ri_of (by decide +kernel) rfl
theorem wi_461_14 : ri (rt_P sc fm) 461 14 (.iload 5) (16) := ri_of (by decide +kernel) rfl
theorem wi_461_140 : ri (rt_P sc fm) 461 140 (.getfield 299) (143) := ri_of (by decide +kernel) rfl
theorem wi_461_143 : ri (rt_P sc fm) 461 143 (.aload_n 0) (144) := ri_of (by decide +kernel) rfl
theorem wi_461_144 : ri (rt_P sc fm) 461 144 (.getfield 877) (147) := ri_of (by decide +kernel) rfl
theorem wi_461_147 : ri (rt_P sc fm) 461 147 (.iload_n 3) (148) := ri_of (by decide +kernel) rfl
theorem wi_461_148 : ri (rt_P sc fm) 461 148 (.iastore) (149) := ri_of (by decide +kernel) rfl
theorem wi_461_149 : ri (rt_P sc fm) 461 149 (.iconst 0) (150) := ri_of (by decide +kernel) rfl
theorem wi_461_150 : ri (rt_P sc fm) 461 150 (.istore 7) (152) := ri_of (by decide +kernel) rfl
theorem wi_461_152 : ri (rt_P sc fm) 461 152 (.iload 7) (154) := ri_of (by decide +kernel) rfl
theorem wi_461_154 : ri (rt_P sc fm) 461 154 (.bipush 16) (156) := ri_of (by decide +kernel) rfl
theorem wi_461_156 : ri (rt_P sc fm) 461 156 (.if_icmp .ge 31) (159) := ri_of (by decide +kernel) rfl
theorem wi_461_159 : ri (rt_P sc fm) 461 159 (.aload_n 0) (160) := ri_of (by decide +kernel) rfl
theorem wi_461_16 : ri (rt_P sc fm) 461 16 (.iaload) (17) := ri_of (by decide +kernel) rfl
theorem wi_461_160 : ri (rt_P sc fm) 461 160 (.getfield 302) (163) := ri_of (by decide +kernel) rfl
theorem wi_461_163 : ri (rt_P sc fm) 461 163 (.bipush 16) (165) := ri_of (by decide +kernel) rfl
theorem wi_461_165 : ri (rt_P sc fm) 461 165 (.aload_n 0) (166) := ri_of (by decide +kernel) rfl
theorem wi_461_166 : ri (rt_P sc fm) 461 166 (.getfield 877) (169) := ri_of (by decide +kernel) rfl
theorem wi_461_169 : ri (rt_P sc fm) 461 169 (.imul) (170) := ri_of (by decide +kernel) rfl
theorem wi_461_17 : ri (rt_P sc fm) 461 17 (.iadd) (18) := ri_of (by decide +kernel) rfl
theorem wi_461_170 : ri (rt_P sc fm) 461 170 (.iload 7) (172) := ri_of (by decide +kernel) rfl
theorem wi_461_172 : ri (rt_P sc fm) 461 172 (.iadd) (173) := ri_of (by decide +kernel) rfl
theorem wi_461_173 : ri (rt_P sc fm) 461 173 (.aload_n 0) (174) := ri_of (by decide +kernel) rfl
theorem wi_461_174 : ri (rt_P sc fm) 461 174 (.getfield 274) (177) := ri_of (by decide +kernel) rfl
theorem wi_461_177 : ri (rt_P sc fm) 461 177 (.iload 7) (179) := ri_of (by decide +kernel) rfl
theorem wi_461_179 : ri (rt_P sc fm) 461 179 (.iaload) (180) := ri_of (by decide +kernel) rfl
theorem wi_461_18 : ri (rt_P sc fm) 461 18 (.istore 6) (20) := ri_of (by decide +kernel) rfl
theorem wi_461_180 : ri (rt_P sc fm) 461 180 (.iastore) (181) := ri_of (by decide +kernel) rfl
theorem wi_461_181 : ri (rt_P sc fm) 461 181 (.iinc 7 1) (184) := ri_of (by decide +kernel) rfl
theorem wi_461_184 : ri (rt_P sc fm) 461 184 (.goto (-32)) (187) := ri_of (by decide +kernel) rfl
theorem wi_461_187 : ri (rt_P sc fm) 461 187 (.aload_n 0) (188) := ri_of (by decide +kernel) rfl
theorem wi_461_188 : ri (rt_P sc fm) 461 188 (.dup) (189) := ri_of (by decide +kernel) rfl
theorem wi_461_189 : ri (rt_P sc fm) 461 189 (.getfield 877) (192) := ri_of (by decide +kernel) rfl
theorem wi_461_192 : ri (rt_P sc fm) 461 192 (.iconst 1) (193) := ri_of (by decide +kernel) rfl
theorem wi_461_193 : ri (rt_P sc fm) 461 193 (.iadd) (194) := ri_of (by decide +kernel) rfl
theorem wi_461_194 : ri (rt_P sc fm) 461 194 (.putfield 877) (197) := ri_of (by decide +kernel) rfl
theorem wi_461_197 : ri (rt_P sc fm) 461 197 (.iload_n 2) (198) := ri_of (by decide +kernel) rfl
theorem wi_461_198 : ri (rt_P sc fm) 461 198 (.aload_n 0) (199) := ri_of (by decide +kernel) rfl
theorem wi_461_199 : ri (rt_P sc fm) 461 199 (.getfield 280) (202) := ri_of (by decide +kernel) rfl
theorem wi_461_2 : ri (rt_P sc fm) 461 2 (.iload_n 1) (3) := ri_of (by decide +kernel) rfl
theorem wi_461_20 : ri (rt_P sc fm) 461 20 (.iconst 0) (21) := ri_of (by decide +kernel) rfl
theorem wi_461_202 : ri (rt_P sc fm) 461 202 (.iload 4) (204) := ri_of (by decide +kernel) rfl
theorem wi_461_204 : ri (rt_P sc fm) 461 204 (.iaload) (205) := ri_of (by decide +kernel) rfl
theorem wi_461_205 : ri (rt_P sc fm) 461 205 (.if_icmp .ne 54) (208) := ri_of (by decide +kernel) rfl
theorem wi_461_208 : ri (rt_P sc fm) 461 208 (.aload_n 0) (209) := ri_of (by decide +kernel) rfl
theorem wi_461_209 : ri (rt_P sc fm) 461 209 (.aload_n 0) (210) := ri_of (by decide +kernel) rfl
theorem wi_461_21 : ri (rt_P sc fm) 461 21 (.istore 7) (23) := ri_of (by decide +kernel) rfl
theorem wi_461_210 : ri (rt_P sc fm) 461 210 (.getfield 292) (213) := ri_of (by decide +kernel) rfl
theorem wi_461_213 : ri (rt_P sc fm) 461 213 (.aload_n 0) (214) := ri_of (by decide +kernel) rfl
theorem wi_461_214 : ri (rt_P sc fm) 461 214 (.getfield 274) (217) := ri_of (by decide +kernel) rfl
theorem wi_461_217 : ri (rt_P sc fm) 461 217 (.iload 6) (219) := ri_of (by decide +kernel) rfl
theorem wi_461_219 : ri (rt_P sc fm) 461 219 (.iconst 1) (220) := ri_of (by decide +kernel) rfl
theorem wi_461_220 : ri (rt_P sc fm) 461 220 (.isub) (221) := ri_of (by decide +kernel) rfl
theorem wi_461_221 : ri (rt_P sc fm) 461 221 (.aload_n 0) (222) := ri_of (by decide +kernel) rfl
theorem wi_461_222 : ri (rt_P sc fm) 461 222 (.iload 5) (224) := ri_of (by decide +kernel) rfl
theorem wi_461_224 : ri (rt_P sc fm) 461 224 (.aload_n 0) (225) := ri_of (by decide +kernel) rfl
theorem wi_461_225 : ri (rt_P sc fm) 461 225 (.getfield 283) (228) := ri_of (by decide +kernel) rfl
theorem wi_461_228 : ri (rt_P sc fm) 461 228 (.iload 4) (230) := ri_of (by decide +kernel) rfl
theorem wi_461_23 : ri (rt_P sc fm) 461 23 (.iload 7) (25) := ri_of (by decide +kernel) rfl
theorem wi_461_230 : ri (rt_P sc fm) 461 230 (.iaload) (231) := ri_of (by decide +kernel) rfl
theorem wi_461_231 : ri (rt_P sc fm) 461 231 (.invokevirtual 865) (234) := ri_of (by decide +kernel) rfl
theorem wi_461_234 : ri (rt_P sc fm) 461 234 (.isub) (235) := ri_of (by decide +kernel) rfl
theorem wi_461_235 : ri (rt_P sc fm) 461 235 (.iaload) (236) := ri_of (by decide +kernel) rfl
theorem wi_461_236 : ri (rt_P sc fm) 461 236 (.aload_n 0) (237) := ri_of (by decide +kernel) rfl
theorem wi_461_237 : ri (rt_P sc fm) 461 237 (.getfield 289) (240) := ri_of (by decide +kernel) rfl
theorem wi_461_240 : ri (rt_P sc fm) 461 240 (.iload 4) (242) := ri_of (by decide +kernel) rfl
theorem wi_461_242 : ri (rt_P sc fm) 461 242 (.iaload) (243) := ri_of (by decide +kernel) rfl
theorem wi_461_243 : ri (rt_P sc fm) 461 243 (.invokevirtual 535) (246) := ri_of (by decide +kernel) rfl
theorem wi_461_246 : ri (rt_P sc fm) 461 246 (.ifCond .ne 13) (249) := ri_of (by decide +kernel) rfl
theorem wi_461_249 : ri (rt_P sc fm) 461 249 (.aload_n 0) (250) := ri_of (by decide +kernel) rfl
theorem wi_461_25 : ri (rt_P sc fm) 461 25 (.aload_n 0) (26) := ri_of (by decide +kernel) rfl
theorem wi_461_250 : ri (rt_P sc fm) 461 250 (.aload_n 0) (251) := ri_of (by decide +kernel) rfl
theorem wi_461_251 : ri (rt_P sc fm) 461 251 (.getfield 877) (254) := ri_of (by decide +kernel) rfl
theorem wi_461_254 : ri (rt_P sc fm) 461 254 (.iconst 1) (255) := ri_of (by decide +kernel) rfl
theorem wi_461_255 : ri (rt_P sc fm) 461 255 (.isub) (256) := ri_of (by decide +kernel) rfl
theorem wi_461_256 : ri (rt_P sc fm) 461 256 (.putfield 883) (259) := ri_of (by decide +kernel) rfl
theorem wi_461_259 : ri (rt_P sc fm) 461 259 (.return_) (260) := ri_of (by decide +kernel) rfl
theorem wi_461_26 : ri (rt_P sc fm) 461 26 (.getfield 877) (29) := ri_of (by decide +kernel) rfl
theorem wi_461_29 : ri (rt_P sc fm) 461 29 (.if_icmp .ge 84) (32) := ri_of (by decide +kernel) rfl
theorem wi_461_3 : ri (rt_P sc fm) 461 3 (.imul) (4) := ri_of (by decide +kernel) rfl
theorem wi_461_32 : ri (rt_P sc fm) 461 32 (.aload_n 0) (33) := ri_of (by decide +kernel) rfl
theorem wi_461_33 : ri (rt_P sc fm) 461 33 (.getfield 296) (36) := ri_of (by decide +kernel) rfl
theorem wi_461_36 : ri (rt_P sc fm) 461 36 (.iload 7) (38) := ri_of (by decide +kernel) rfl
theorem wi_461_38 : ri (rt_P sc fm) 461 38 (.iaload) (39) := ri_of (by decide +kernel) rfl
theorem wi_461_39 : ri (rt_P sc fm) 461 39 (.iload_n 2) (40) := ri_of (by decide +kernel) rfl
theorem wi_461_4 : ri (rt_P sc fm) 461 4 (.iload_n 2) (5) := ri_of (by decide +kernel) rfl
theorem wi_461_40 : ri (rt_P sc fm) 461 40 (.if_icmp .ne 7) (43) := ri_of (by decide +kernel) rfl
theorem wi_461_43 : ri (rt_P sc fm) 461 43 (.iconst 1) (44) := ri_of (by decide +kernel) rfl
theorem wi_461_44 : ri (rt_P sc fm) 461 44 (.goto 4) (47) := ri_of (by decide +kernel) rfl
theorem wi_461_47 : ri (rt_P sc fm) 461 47 (.iconst 0) (48) := ri_of (by decide +kernel) rfl
theorem wi_461_48 : ri (rt_P sc fm) 461 48 (.istore 8) (50) := ri_of (by decide +kernel) rfl
theorem wi_461_5 : ri (rt_P sc fm) 461 5 (.iadd) (6) := ri_of (by decide +kernel) rfl
theorem wi_461_50 : ri (rt_P sc fm) 461 50 (.iconst 0) (51) := ri_of (by decide +kernel) rfl
theorem wi_461_51 : ri (rt_P sc fm) 461 51 (.istore 9) (53) := ri_of (by decide +kernel) rfl
theorem wi_461_53 : ri (rt_P sc fm) 461 53 (.iload 9) (55) := ri_of (by decide +kernel) rfl
theorem wi_461_55 : ri (rt_P sc fm) 461 55 (.iload 6) (57) := ri_of (by decide +kernel) rfl
theorem wi_461_57 : ri (rt_P sc fm) 461 57 (.if_icmp .ge 44) (60) := ri_of (by decide +kernel) rfl
theorem wi_461_6 : ri (rt_P sc fm) 461 6 (.istore 5) (8) := ri_of (by decide +kernel) rfl
theorem wi_461_60 : ri (rt_P sc fm) 461 60 (.iload 8) (62) := ri_of (by decide +kernel) rfl
theorem wi_461_62 : ri (rt_P sc fm) 461 62 (.ifCond .eq 39) (65) := ri_of (by decide +kernel) rfl
theorem wi_461_65 : ri (rt_P sc fm) 461 65 (.aload_n 0) (66) := ri_of (by decide +kernel) rfl
theorem wi_461_66 : ri (rt_P sc fm) 461 66 (.getfield 302) (69) := ri_of (by decide +kernel) rfl
theorem wi_461_69 : ri (rt_P sc fm) 461 69 (.bipush 16) (71) := ri_of (by decide +kernel) rfl
theorem wi_461_71 : ri (rt_P sc fm) 461 71 (.iload 7) (73) := ri_of (by decide +kernel) rfl
theorem wi_461_73 : ri (rt_P sc fm) 461 73 (.imul) (74) := ri_of (by decide +kernel) rfl
theorem wi_461_74 : ri (rt_P sc fm) 461 74 (.iload 9) (76) := ri_of (by decide +kernel) rfl
theorem wi_461_76 : ri (rt_P sc fm) 461 76 (.iadd) (77) := ri_of (by decide +kernel) rfl
theorem wi_461_77 : ri (rt_P sc fm) 461 77 (.iaload) (78) := ri_of (by decide +kernel) rfl
theorem wi_461_78 : ri (rt_P sc fm) 461 78 (.aload_n 0) (79) := ri_of (by decide +kernel) rfl
theorem wi_461_79 : ri (rt_P sc fm) 461 79 (.getfield 274) (82) := ri_of (by decide +kernel) rfl
theorem wi_461_8 : ri (rt_P sc fm) 461 8 (.bipush 8) (10) := ri_of (by decide +kernel) rfl
theorem wi_461_82 : ri (rt_P sc fm) 461 82 (.iload 9) (84) := ri_of (by decide +kernel) rfl
theorem wi_461_84 : ri (rt_P sc fm) 461 84 (.iaload) (85) := ri_of (by decide +kernel) rfl
theorem wi_461_85 : ri (rt_P sc fm) 461 85 (.if_icmp .ne 7) (88) := ri_of (by decide +kernel) rfl
theorem wi_461_88 : ri (rt_P sc fm) 461 88 (.iconst 1) (89) := ri_of (by decide +kernel) rfl
theorem wi_461_89 : ri (rt_P sc fm) 461 89 (.goto 4) (92) := ri_of (by decide +kernel) rfl
theorem wi_461_92 : ri (rt_P sc fm) 461 92 (.iconst 0) (93) := ri_of (by decide +kernel) rfl
theorem wi_461_93 : ri (rt_P sc fm) 461 93 (.istore 8) (95) := ri_of (by decide +kernel) rfl
theorem wi_461_95 : ri (rt_P sc fm) 461 95 (.iinc 9 1) (98) := ri_of (by decide +kernel) rfl
theorem wi_461_98 : ri (rt_P sc fm) 461 98 (.goto (-45)) (101) := ri_of (by decide +kernel) rfl
theorem wp_461_877 : rx_pt (rt_P sc fm) 461 877 = some (15, 101, .int) := (by decide +kernel : rt_pt 461 877 = some (15, 101, .int))
theorem wp_461_880 : rx_pt (rt_P sc fm) 461 880 = some (15, 104, .boolean) := (by decide +kernel : rt_pt 461 880 = some (15, 104, .boolean))
theorem wp_461_883 : rx_pt (rt_P sc fm) 461 883 = some (15, 105, .int) := (by decide +kernel : rt_pt 461 883 = some (15, 105, .int))
theorem wr_461 : rx_rt (rt_P sc fm) 461 = none := (by decide +kernel : rt_rt 461 = none)
/-- MarkHouseModel.meets(IIII)V -/
def d_461 (n : Nat) (a1 : Int32) (a2 : Int32) (a3 : Int32) (a4 : Int32) (c : cS) : Option (cS) :=
  lt (((40 * a1) + a2) : Int32) (fun v2 =>
  if ib v2 3840 then
  lt ((8 + (c.1 230 (ix v2))) : Int32) (fun v6 =>
  Option.bind (whl (R := (Unit) ⊕ (Unit)) (fun s9 : Int32 =>
    if (c.1 174 101) ≤ s9 then
      some (.inr (.inl ()))
    else
      if ib s9 400 then
      jn (fun p11 : Int32 =>
        Option.bind (whl (R := (Int32)) (fun s14 : Int32 × Int32 =>
          if v6 ≤ s14.2 then
            some (.inr s14.1)
          else
            if s14.1 = 0 then
              some (.inr s14.1)
            else
              if ib ((16 * s9) + s14.2) 6400 then
              if ib s14.2 16 then
              jn (fun p17 : Int32 =>
                lt (s14.2 + 1 : Int32) (fun v20 =>
                some (.inl (p17, v20))))
              (fun j93 =>
              if (c.1 248 (ix ((16 * s9) + s14.2))) = (c.1 240 (ix s14.2)) then
                j93 1
              else
                j93 0)
              else none
              else none) n (p11, 0))
        (fun x22 : Int32 =>
          if x22 = 0 then
            lt (s9 + 1 : Int32) (fun v24 =>
            some (.inl v24))
          else
            some (.inr (.inr ()))))
      (fun j48 =>
      if (c.1 246 (ix s9)) = a2 then
        j48 1
      else
        j48 0)
      else none) n 0)
  (Sum.elim (fun x26 : Unit =>
    if (c.1 174 101) = 400 then
      lt (pI c 174 104 1) (fun c54 =>
      some c54)
    else
      if ib (c.1 174 101) 400 then
      lt (pI c 246 (ix (c.1 174 101)) a2) (fun c28 =>
      if ib (c28.1 174 101) 400 then
      lt (pI c28 247 (ix (c28.1 174 101)) a3) (fun c31 =>
      Option.bind (whl (R := (cS)) (fun s34 : Int32 × cS =>
        if 16 ≤ s34.1 then
          some (.inr s34.2)
        else
          if ib s34.1 16 then
          if ib ((16 * (s34.2.1 174 101)) + s34.1) 6400 then
          lt (pI s34.2 248 (ix ((16 * (s34.2.1 174 101)) + s34.1)) (s34.2.1 240 (ix s34.1))) (fun c37 =>
          lt (s34.1 + 1 : Int32) (fun v40 =>
          some (.inl (v40, c37))))
          else none
          else none) n (0, c31))
      (fun x42 : cS =>
        lt (pI x42 174 101 ((x42.1 174 101) + 1)) (fun c43 =>
        if ib a4 15360 then
        jn (fun p46 : cS =>
          some p46)
        (fun j259 =>
        if a2 = (c43.1 242 (ix a4)) then
          if ib a4 15360 then
          Option.bind (d_459 n v2 (c43.1 243 (ix a4)) c43) (fun v48 =>
          if ib ((v6 - 1) - v48) 16 then
          if ib a4 15360 then
          Option.bind (d_387 n (c43.1 174 97) (c43.1 240 (ix ((v6 - 1) - v48))) (c43.1 245 (ix a4)) c43) (fun v51 =>
          if v51 = 0 then
            lt (pI c43 174 105 ((c43.1 174 101) - 1)) (fun c52 =>
            j259 c52)
          else
            j259 c43)
          else none
          else none)
          else none
        else
          j259 c43)
        else none)))
      else none)
      else none)
  (fun x56 : Unit =>
    some c)))
  else none)
theorem sp_461 {F Lo n : Nat} {a1 : Int32} {a2 : Int32} {a3 : Int32} {a4 : Int32} {c y : cS} {w : cW} {K : cS → Prop} {Q : ((Option Value) ⊕ String) → List va_E → Prop} (hw : rOK fm w) (hF : 2 ≤ F) (hLo : 46 ≤ Lo)  (h : wp (d_461 n a1 a2 a3 a4 c) K) (hQ : ∀ r, K r → Q (.inl none) (hq false r y w)) : rs (rt_P sc fm) 461 F Lo 0 [(0, .ref 174), (1, .int a1), (2, .int a2), (3, .int a3), (4, .int a4)] [] (hq false c y w) Q := by
  unfold d_461 at h
  obtain ⟨lv, elv⟩ : ∃ lv : rx_L, lv = [(0, .ref 174), (1, .int a1), (2, .int a2), (3, .int a3), (4, .int a4)] := ⟨_, rfl⟩
  rw [← elv]
  have l0 : rx_ld lv 0 = some (.ref 174) := by rw [elv]; rfl
  have l1 : rx_ld lv 1 = some (.int a1) := by rw [elv]; rfl
  have l2 : rx_ld lv 2 = some (.int a2) := by rw [elv]; rfl
  have l3 : rx_ld lv 3 = some (.int a3) := by rw [elv]; rfl
  have l4 : rx_ld lv 4 = some (.int a4) := by rw [elv]; rfl
  refine rs_pure wi_461_0 rfl ?_
  refine rs_topi (v := 40) (by decide) ?_
  refine rs_ildn wi_461_2 l1 ?_
  refine rs_pure wi_461_3 rfl ?_
  refine rs_ildn wi_461_4 l2 ?_
  refine rs_pure wi_461_5 rfl ?_
  obtain ⟨v2, e3, h⟩ := wp_lt h
  refine rs_topi e3 ?_
  refine dl_ist wi_461_6 rfl (fun lv l5 t1 => ?_)
  have l0 := t1 _ _ (by decide) (Or.inl rfl) l0
  have l2 := t1 _ _ (by decide) (Or.inl rfl) l2
  have l3 := t1 _ _ (by decide) (Or.inl rfl) l3
  have l4 := t1 _ _ (by decide) (Or.inl rfl) l4
  refine rs_pure wi_461_8 rfl ?_
  refine rs_topi (v := 8) (by decide) ?_
  refine rs_aldn wi_461_10 l0 ?_
  refine dq_gr wi_461_11 wf_461_243 tf_174_70 ?_
  refine rs_ild wi_461_14 l5 ?_
  obtain ⟨g4, h⟩ := wp_gd h
  refine dq_iald wi_461_16 t_230 g4 ?_
  refine rs_pure wi_461_17 rfl ?_
  obtain ⟨v6, e7, h⟩ := wp_lt h
  refine rs_topi e7 ?_
  refine dl_ist wi_461_18 rfl (fun lv l6 t5 => ?_)
  have l0 := t5 _ _ (by decide) (Or.inl rfl) l0
  have l2 := t5 _ _ (by decide) (Or.inl rfl) l2
  have l3 := t5 _ _ (by decide) (Or.inl rfl) l3
  have l4 := t5 _ _ (by decide) (Or.inl rfl) l4
  have l5 := t5 _ _ (by decide) (Or.inl rfl) l5
  refine rs_pure wi_461_20 rfl ?_
  refine rs_topi (v := 0) (by decide) ?_
  refine dl_ist wi_461_21 rfl (fun lv l7 t8 => ?_)
  have l0 := t8 _ _ (by decide) (Or.inl rfl) l0
  have l2 := t8 _ _ (by decide) (Or.inl rfl) l2
  have l3 := t8 _ _ (by decide) (Or.inl rfl) l3
  have l4 := t8 _ _ (by decide) (Or.inl rfl) l4
  have l5 := t8 _ _ (by decide) (Or.inl rfl) l5
  have l6 := t8 _ _ (by decide) (Or.inl rfl) l6
  refine whl_ex (A := fun s9 : Int32 => ∀ lv, rx_ld lv 0 = some (.ref 174) → rx_ld lv 2 = some (.int a2) → rx_ld lv 3 = some (.int a3) → rx_ld lv 4 = some (.int a4) → rx_ld lv 5 = some (.int v2) → rx_ld lv 6 = some (.int v6) → rx_ld lv 7 = some (.int s9) → rs (rt_P sc fm) 461 F Lo 23 lv [] (hq false c y w) Q) (B := (Sum.elim (fun x26 : Unit => ∀ lv, rx_ld lv 0 = some (.ref 174) → rx_ld lv 2 = some (.int a2) → rx_ld lv 3 = some (.int a3) → rx_ld lv 4 = some (.int a4) → rx_ld lv 5 = some (.int v2) → rx_ld lv 6 = some (.int v6) → rs (rt_P sc fm) 461 F Lo 113 lv [] (hq false c y w) Q) (fun x56 : Unit => ∀ lv, rs (rt_P sc fm) 461 F Lo 106 lv [] (hq false c y w) Q))) ?_ ?_ _ _ (wp_bind h) _ l0 l2 l3 l4 l5 l6 l7
  · intro s9 h lv l0 l2 l3 l4 l5 l6 l7
    refine rs_ild wi_461_23 l7 ?_
    refine rs_aldn wi_461_25 l0 ?_
    refine dq_gi wi_461_26 wf_461_877 tf_174_101 ?_
    refine rs_icge (tg := 113) wi_461_29 ⟨by decide, by decide⟩ (fun q => ?_) (fun q => ?_)
    ·
      have h := wp_pos h q
      exact h _ l0 l2 l3 l4 l5 l6
    ·
      have h := wp_neg h q
      refine rs_aldn wi_461_32 l0 ?_
      refine dq_gr wi_461_33 wf_461_296 tf_174_98 ?_
      refine rs_ild wi_461_36 l7 ?_
      obtain ⟨g10, h⟩ := wp_gd h
      refine dq_iald wi_461_38 t_246 g10 ?_
      refine rs_ildn wi_461_39 l2 ?_
      refine wp_jn (B := fun p11 : Int32 => ∀ lv, rx_ld lv 0 = some (.ref 174) → rx_ld lv 2 = some (.int a2) → rx_ld lv 3 = some (.int a3) → rx_ld lv 4 = some (.int a4) → rx_ld lv 5 = some (.int v2) → rx_ld lv 6 = some (.int v6) → rx_ld lv 7 = some (.int s9) → rs (rt_P sc fm) 461 F Lo 48 lv [.int p11] (hq false c y w) Q) h (fun p11 h lv l0 l2 l3 l4 l5 l6 l7 => ?_) (fun j48 hj48 h => ?_)
      ·
        refine dl_ist wi_461_48 rfl (fun lv l8 t12 => ?_)
        have l0 := t12 _ _ (by decide) (Or.inl rfl) l0
        have l2 := t12 _ _ (by decide) (Or.inl rfl) l2
        have l3 := t12 _ _ (by decide) (Or.inl rfl) l3
        have l4 := t12 _ _ (by decide) (Or.inl rfl) l4
        have l5 := t12 _ _ (by decide) (Or.inl rfl) l5
        have l6 := t12 _ _ (by decide) (Or.inl rfl) l6
        have l7 := t12 _ _ (by decide) (Or.inl rfl) l7
        refine rs_pure wi_461_50 rfl ?_
        refine rs_topi (v := 0) (by decide) ?_
        refine dl_ist wi_461_51 rfl (fun lv l9 t13 => ?_)
        have l0 := t13 _ _ (by decide) (Or.inl rfl) l0
        have l2 := t13 _ _ (by decide) (Or.inl rfl) l2
        have l3 := t13 _ _ (by decide) (Or.inl rfl) l3
        have l4 := t13 _ _ (by decide) (Or.inl rfl) l4
        have l5 := t13 _ _ (by decide) (Or.inl rfl) l5
        have l6 := t13 _ _ (by decide) (Or.inl rfl) l6
        have l7 := t13 _ _ (by decide) (Or.inl rfl) l7
        have l8 := t13 _ _ (by decide) (Or.inl rfl) l8
        refine whl_ex (A := fun s14 : Int32 × Int32 => ∀ lv, rx_ld lv 0 = some (.ref 174) → rx_ld lv 2 = some (.int a2) → rx_ld lv 3 = some (.int a3) → rx_ld lv 4 = some (.int a4) → rx_ld lv 5 = some (.int v2) → rx_ld lv 6 = some (.int v6) → rx_ld lv 7 = some (.int s9) → rx_ld lv 8 = some (.int s14.1) → rx_ld lv 9 = some (.int s14.2) → rs (rt_P sc fm) 461 F Lo 53 lv [] (hq false c y w) Q) (B := (fun x22 : Int32 => ∀ lv, rx_ld lv 0 = some (.ref 174) → rx_ld lv 2 = some (.int a2) → rx_ld lv 3 = some (.int a3) → rx_ld lv 4 = some (.int a4) → rx_ld lv 5 = some (.int v2) → rx_ld lv 6 = some (.int v6) → rx_ld lv 7 = some (.int s9) → rx_ld lv 8 = some (.int x22) → rs (rt_P sc fm) 461 F Lo 101 lv [] (hq false c y w) Q)) ?_ ?_ _ _ (wp_bind h) _ l0 l2 l3 l4 l5 l6 l7 l8 l9
        · intro s14 h lv l0 l2 l3 l4 l5 l6 l7 l8 l9
          refine rs_ild wi_461_53 l9 ?_
          refine rs_ild wi_461_55 l6 ?_
          refine rs_icge (tg := 101) wi_461_57 ⟨by decide, by decide⟩ (fun q => ?_) (fun q => ?_)
          ·
            have h := wp_pos h q
            exact h _ l0 l2 l3 l4 l5 l6 l7 l8
          ·
            have h := wp_neg h q
            refine rs_ild wi_461_60 l8 ?_
            refine rs_ifeq (tg := 101) wi_461_62 ⟨by decide, by decide⟩ (fun q => ?_) (fun q => ?_)
            ·
              have h := wp_pos h q
              exact h _ l0 l2 l3 l4 l5 l6 l7 l8
            ·
              have h := wp_neg h q
              refine rs_aldn wi_461_65 l0 ?_
              refine dq_gr wi_461_66 wf_461_302 tf_174_100 ?_
              refine rs_pure wi_461_69 rfl ?_
              refine rs_topi (v := 16) (by decide) ?_
              refine rs_ild wi_461_71 l7 ?_
              refine rs_pure wi_461_73 rfl ?_
              refine rs_ild wi_461_74 l9 ?_
              refine rs_pure wi_461_76 rfl ?_
              obtain ⟨g15, h⟩ := wp_gd h
              refine dq_iald wi_461_77 t_248 g15 ?_
              refine rs_aldn wi_461_78 l0 ?_
              refine dq_gr wi_461_79 wf_461_274 tf_174_89 ?_
              refine rs_ild wi_461_82 l9 ?_
              obtain ⟨g16, h⟩ := wp_gd h
              refine dq_iald wi_461_84 t_240 g16 ?_
              refine wp_jn (B := fun p17 : Int32 => ∀ lv, rx_ld lv 0 = some (.ref 174) → rx_ld lv 2 = some (.int a2) → rx_ld lv 3 = some (.int a3) → rx_ld lv 4 = some (.int a4) → rx_ld lv 5 = some (.int v2) → rx_ld lv 6 = some (.int v6) → rx_ld lv 7 = some (.int s9) → rx_ld lv 9 = some (.int s14.2) → rs (rt_P sc fm) 461 F Lo 93 lv [.int p17] (hq false c y w) Q) h (fun p17 h lv l0 l2 l3 l4 l5 l6 l7 l9 => ?_) (fun j93 hj93 h => ?_)
              ·
                refine dl_ist wi_461_93 rfl (fun lv l8 t18 => ?_)
                have l0 := t18 _ _ (by decide) (Or.inl rfl) l0
                have l2 := t18 _ _ (by decide) (Or.inl rfl) l2
                have l3 := t18 _ _ (by decide) (Or.inl rfl) l3
                have l4 := t18 _ _ (by decide) (Or.inl rfl) l4
                have l5 := t18 _ _ (by decide) (Or.inl rfl) l5
                have l6 := t18 _ _ (by decide) (Or.inl rfl) l6
                have l7 := t18 _ _ (by decide) (Or.inl rfl) l7
                have l9 := t18 _ _ (by decide) (Or.inl rfl) l9
                obtain ⟨v20, e21, h⟩ := wp_lt h
                refine dl_inc wi_461_95 l9 rfl e21 (fun lv l9 t19 => ?_)
                have l0 := t19 _ _ (by decide) (Or.inl rfl) l0
                have l2 := t19 _ _ (by decide) (Or.inl rfl) l2
                have l3 := t19 _ _ (by decide) (Or.inl rfl) l3
                have l4 := t19 _ _ (by decide) (Or.inl rfl) l4
                have l5 := t19 _ _ (by decide) (Or.inl rfl) l5
                have l6 := t19 _ _ (by decide) (Or.inl rfl) l6
                have l7 := t19 _ _ (by decide) (Or.inl rfl) l7
                have l8 := t19 _ _ (by decide) (Or.inl rfl) l8
                refine rs_goto (tg := 53) wi_461_98 ⟨by decide, by decide⟩ ?_
                exact h _ l0 l2 l3 l4 l5 l6 l7 l8 l9
              refine rs_icne (tg := 92) wi_461_85 ⟨by decide, by decide⟩ (fun q => ?_) (fun q => ?_)
              ·
                have h := wp_neg h q
                refine rs_pure wi_461_92 rfl ?_
                refine rs_topi (v := 0) (by decide) ?_
                exact hj93 _ h _ l0 l2 l3 l4 l5 l6 l7 l9
              ·
                have h := wp_pos h q
                refine rs_pure wi_461_88 rfl ?_
                refine rs_topi (v := 1) (by decide) ?_
                refine rs_goto (tg := 93) wi_461_89 ⟨by decide, by decide⟩ ?_
                exact hj93 _ h _ l0 l2 l3 l4 l5 l6 l7 l9
        ·
          intro x22 h lv l0 l2 l3 l4 l5 l6 l7 l8
          refine rs_ild wi_461_101 l8 ?_
          refine rs_ifeq (tg := 107) wi_461_103 ⟨by decide, by decide⟩ (fun q => ?_) (fun q => ?_)
          ·
            have h := wp_pos h q
            obtain ⟨v24, e25, h⟩ := wp_lt h
            refine dl_inc wi_461_107 l7 rfl e25 (fun lv l7 t23 => ?_)
            have l0 := t23 _ _ (by decide) (Or.inl rfl) l0
            have l2 := t23 _ _ (by decide) (Or.inl rfl) l2
            have l3 := t23 _ _ (by decide) (Or.inl rfl) l3
            have l4 := t23 _ _ (by decide) (Or.inl rfl) l4
            have l5 := t23 _ _ (by decide) (Or.inl rfl) l5
            have l6 := t23 _ _ (by decide) (Or.inl rfl) l6
            refine rs_goto (tg := 23) wi_461_110 ⟨by decide, by decide⟩ ?_
            exact h _ l0 l2 l3 l4 l5 l6 l7
          ·
            have h := wp_neg h q
            exact h _
      refine rs_icne (tg := 47) wi_461_40 ⟨by decide, by decide⟩ (fun q => ?_) (fun q => ?_)
      ·
        have h := wp_neg h q
        refine rs_pure wi_461_47 rfl ?_
        refine rs_topi (v := 0) (by decide) ?_
        exact hj48 _ h _ l0 l2 l3 l4 l5 l6 l7
      ·
        have h := wp_pos h q
        refine rs_pure wi_461_43 rfl ?_
        refine rs_topi (v := 1) (by decide) ?_
        refine rs_goto (tg := 48) wi_461_44 ⟨by decide, by decide⟩ ?_
        exact hj48 _ h _ l0 l2 l3 l4 l5 l6 l7
  ·
    refine sum_all ?_ ?_
    ·
      intro x26 h lv l0 l2 l3 l4 l5 l6
      refine rs_aldn wi_461_113 l0 ?_
      refine dq_gi wi_461_114 wf_461_877 tf_174_101 ?_
      refine rs_pure wi_461_117 rfl ?_
      refine rs_topi (v := 400) (by decide) ?_
      refine rs_icne (tg := 129) wi_461_120 ⟨by decide, by decide⟩ (fun q => ?_) (fun q => ?_)
      ·
        have h := wp_neg h q
        refine rs_aldn wi_461_129 l0 ?_
        refine dq_gr wi_461_130 wf_461_296 tf_174_98 ?_
        refine rs_aldn wi_461_133 l0 ?_
        refine dq_gi wi_461_134 wf_461_877 tf_174_101 ?_
        refine rs_ildn wi_461_137 l2 ?_
        obtain ⟨g27, h⟩ := wp_gd h
        obtain ⟨c28, e29, h⟩ := wp_lt h
        refine dq_iast wi_461_138 t_246 g27 e29 ?_
        refine rs_aldn wi_461_139 l0 ?_
        refine dq_gr wi_461_140 wf_461_299 tf_174_99 ?_
        refine rs_aldn wi_461_143 l0 ?_
        refine dq_gi wi_461_144 wf_461_877 tf_174_101 ?_
        refine rs_ildn wi_461_147 l3 ?_
        obtain ⟨g30, h⟩ := wp_gd h
        obtain ⟨c31, e32, h⟩ := wp_lt h
        refine dq_iast wi_461_148 t_247 g30 e32 ?_
        refine rs_pure wi_461_149 rfl ?_
        refine rs_topi (v := 0) (by decide) ?_
        refine dl_ist wi_461_150 rfl (fun lv l7 t33 => ?_)
        have l0 := t33 _ _ (by decide) (Or.inl rfl) l0
        have l2 := t33 _ _ (by decide) (Or.inl rfl) l2
        have l4 := t33 _ _ (by decide) (Or.inl rfl) l4
        have l5 := t33 _ _ (by decide) (Or.inl rfl) l5
        have l6 := t33 _ _ (by decide) (Or.inl rfl) l6
        refine whl_ex (A := fun s34 : Int32 × cS => ∀ lv, rx_ld lv 0 = some (.ref 174) → rx_ld lv 2 = some (.int a2) → rx_ld lv 4 = some (.int a4) → rx_ld lv 5 = some (.int v2) → rx_ld lv 6 = some (.int v6) → rx_ld lv 7 = some (.int s34.1) → rs (rt_P sc fm) 461 F Lo 152 lv [] (hq false s34.2 y w) Q) (B := (fun x42 : cS => ∀ lv, rx_ld lv 0 = some (.ref 174) → rx_ld lv 2 = some (.int a2) → rx_ld lv 4 = some (.int a4) → rx_ld lv 5 = some (.int v2) → rx_ld lv 6 = some (.int v6) → rs (rt_P sc fm) 461 F Lo 187 lv [] (hq false x42 y w) Q)) ?_ ?_ _ _ (wp_bind h) _ l0 l2 l4 l5 l6 l7
        · intro s34 h lv l0 l2 l4 l5 l6 l7
          refine rs_ild wi_461_152 l7 ?_
          refine rs_pure wi_461_154 rfl ?_
          refine rs_topi (v := 16) (by decide) ?_
          refine rs_icge (tg := 187) wi_461_156 ⟨by decide, by decide⟩ (fun q => ?_) (fun q => ?_)
          ·
            have h := wp_pos h q
            exact h _ l0 l2 l4 l5 l6
          ·
            have h := wp_neg h q
            refine rs_aldn wi_461_159 l0 ?_
            refine dq_gr wi_461_160 wf_461_302 tf_174_100 ?_
            refine rs_pure wi_461_163 rfl ?_
            refine rs_topi (v := 16) (by decide) ?_
            refine rs_aldn wi_461_165 l0 ?_
            refine dq_gi wi_461_166 wf_461_877 tf_174_101 ?_
            refine rs_pure wi_461_169 rfl ?_
            refine rs_ild wi_461_170 l7 ?_
            refine rs_pure wi_461_172 rfl ?_
            refine rs_aldn wi_461_173 l0 ?_
            refine dq_gr wi_461_174 wf_461_274 tf_174_89 ?_
            refine rs_ild wi_461_177 l7 ?_
            obtain ⟨g35, h⟩ := wp_gd h
            refine dq_iald wi_461_179 t_240 g35 ?_
            obtain ⟨g36, h⟩ := wp_gd h
            obtain ⟨c37, e38, h⟩ := wp_lt h
            refine dq_iast wi_461_180 t_248 g36 e38 ?_
            obtain ⟨v40, e41, h⟩ := wp_lt h
            refine dl_inc wi_461_181 l7 rfl e41 (fun lv l7 t39 => ?_)
            have l0 := t39 _ _ (by decide) (Or.inl rfl) l0
            have l2 := t39 _ _ (by decide) (Or.inl rfl) l2
            have l4 := t39 _ _ (by decide) (Or.inl rfl) l4
            have l5 := t39 _ _ (by decide) (Or.inl rfl) l5
            have l6 := t39 _ _ (by decide) (Or.inl rfl) l6
            refine rs_goto (tg := 152) wi_461_184 ⟨by decide, by decide⟩ ?_
            exact h _ l0 l2 l4 l5 l6 l7
        ·
          intro x42 h lv l0 l2 l4 l5 l6
          refine rs_aldn wi_461_187 l0 ?_
          refine rs_pure wi_461_188 rfl ?_
          refine dq_gi wi_461_189 wf_461_877 tf_174_101 ?_
          refine rs_pure wi_461_192 rfl ?_
          refine rs_topi (v := 1) (by decide) ?_
          refine rs_pure wi_461_193 rfl ?_
          obtain ⟨c43, e44, h⟩ := wp_lt h
          refine dq_pi wi_461_194 wp_461_877 tf_174_101 rfl rfl e44 ?_
          refine rs_ildn wi_461_197 l2 ?_
          refine rs_aldn wi_461_198 l0 ?_
          refine dq_gr wi_461_199 wf_461_280 tf_174_93 ?_
          refine rs_ild wi_461_202 l4 ?_
          obtain ⟨g45, h⟩ := wp_gd h
          refine dq_iald wi_461_204 t_242 g45 ?_
          refine wp_jn (B := fun p46 : cS => ∀ lv, rs (rt_P sc fm) 461 F Lo 259 lv [] (hq false p46 y w) Q) h (fun p46 h lv => ?_) (fun j259 hj259 h => ?_)
          ·
            exact rs_vret wi_461_259 wr_461 (hQ p46 h)
          refine rs_icne (tg := 259) wi_461_205 ⟨by decide, by decide⟩ (fun q => ?_) (fun q => ?_)
          ·
            have h := wp_neg h q
            exact hj259 _ h _
          ·
            have h := wp_pos h q
            refine rs_aldn wi_461_208 l0 ?_
            refine rs_aldn wi_461_209 l0 ?_
            refine dq_gi wi_461_210 wf_461_292 tf_174_97 ?_
            refine rs_aldn wi_461_213 l0 ?_
            refine dq_gr wi_461_214 wf_461_274 tf_174_89 ?_
            refine rs_ild wi_461_217 l6 ?_
            refine rs_pure wi_461_219 rfl ?_
            refine rs_topi (v := 1) (by decide) ?_
            refine rs_pure wi_461_220 rfl ?_
            refine rs_aldn wi_461_221 l0 ?_
            refine rs_ild wi_461_222 l5 ?_
            refine rs_aldn wi_461_224 l0 ?_
            refine dq_gr wi_461_225 wf_461_283 tf_174_94 ?_
            refine rs_ild wi_461_228 l4 ?_
            obtain ⟨g47, h⟩ := wp_gd h
            refine dq_iald wi_461_230 t_243 g47 ?_
            refine rs_V wi_461_231 wc_461_865 rfl (dq_isa tf_174_0 wa_15_459) (Nat.le_trans (by decide) hF) (ml_le wm_459 (Nat.le_trans (by decide) hLo)) rfl (sp_459 hw (Nat.le_trans (by decide : 1 ≤ 2 - 1) (Nat.sub_le_sub_right hF 1)) (ml_sub wm_459 (Nat.le_trans (by decide : 21 ≤ 46 - 22) (Nat.sub_le_sub_right hLo 22))) (wp_bind h) (fun v48 h => rs_back1 ?_))
            refine rs_pure wi_461_234 rfl ?_
            obtain ⟨g49, h⟩ := wp_gd h
            refine dq_iald wi_461_235 t_240 g49 ?_
            refine rs_aldn wi_461_236 l0 ?_
            refine dq_gr wi_461_237 wf_461_289 tf_174_96 ?_
            refine rs_ild wi_461_240 l4 ?_
            obtain ⟨g50, h⟩ := wp_gd h
            refine dq_iald wi_461_242 t_245 g50 ?_
            refine rs_V wi_461_243 wc_461_535 rfl (dq_isa tf_174_0 wa_15_387) (Nat.le_trans (by decide) hF) (ml_le wm_387 (Nat.le_trans (by decide) hLo)) rfl (sp_387 hw (Nat.le_trans (by decide : 1 ≤ 2 - 1) (Nat.sub_le_sub_right hF 1)) (ml_sub wm_387 (Nat.le_trans (by decide : 23 ≤ 46 - 23) (Nat.sub_le_sub_right hLo 23))) (wp_bind h) (fun v51 h => rs_back1 ?_))
            refine rs_ifne (tg := 259) wi_461_246 ⟨by decide, by decide⟩ (fun q => ?_) (fun q => ?_)
            ·
              have h := wp_neg h q
              exact hj259 _ h _
            ·
              have h := wp_pos h q
              refine rs_aldn wi_461_249 l0 ?_
              refine rs_aldn wi_461_250 l0 ?_
              refine dq_gi wi_461_251 wf_461_877 tf_174_101 ?_
              refine rs_pure wi_461_254 rfl ?_
              refine rs_topi (v := 1) (by decide) ?_
              refine rs_pure wi_461_255 rfl ?_
              obtain ⟨c52, e53, h⟩ := wp_lt h
              refine dq_pi wi_461_256 wp_461_883 tf_174_105 rfl rfl e53 ?_
              exact hj259 _ h _
      ·
        have h := wp_pos h q
        refine rs_aldn wi_461_123 l0 ?_
        refine rs_pure wi_461_124 rfl ?_
        refine rs_topi (v := 1) (by decide) ?_
        obtain ⟨c54, e55, h⟩ := wp_lt h
        refine dq_pi wi_461_125 wp_461_880 tf_174_104 (nb_n (by decide)) (nb_f (by decide)) e55 ?_
        exact rs_vret wi_461_128 wr_461 (hQ c54 h)
    ·
      intro x56 h lv
      exact rs_vret wi_461_106 wr_461 (hQ c h)
theorem wa_15_461 : rz_cn 15 (rx_yn (rt_P sc fm) 461).cls = true := (by decide +kernel : rz_cn 15 (rt_yn 461).cls = true)
theorem wc_462_730 : rx_ct (rt_P sc fm) 462 730 = some (0, 391, 3) := (by decide +kernel : rt_ct 462 730 = some (0, 391, 3))
theorem wc_462_850 : rx_ct (rt_P sc fm) 462 850 = some (0, 454, 2) := (by decide +kernel : rt_ct 462 850 = some (0, 454, 2))
theorem wc_462_886 : rx_ct (rt_P sc fm) 462 886 = some (0, 461, 4) := (by decide +kernel : rt_ct 462 886 = some (0, 461, 4))
theorem wf_462_185 : rx_ft (rt_P sc fm) 462 185 = some (15, 49) := (by decide +kernel : rt_ft 462 185 = some (15, 49))
theorem wf_462_194 : rx_ft (rt_P sc fm) 462 194 = some (15, 52) := (by decide +kernel : rt_ft 462 194 = some (15, 52))
theorem wf_462_197 : rx_ft (rt_P sc fm) 462 197 = some (15, 53) := (by decide +kernel : rt_ft 462 197 = some (15, 53))
theorem wf_462_200 : rx_ft (rt_P sc fm) 462 200 = some (15, 54) := (by decide +kernel : rt_ft 462 200 = some (15, 54))
theorem wf_462_243 : rx_ft (rt_P sc fm) 462 243 = some (15, 70) := (by decide +kernel : rt_ft 462 243 = some (15, 70))
theorem wf_462_274 : rx_ft (rt_P sc fm) 462 274 = some (15, 89) := (by decide +kernel : rt_ft 462 274 = some (15, 89))
theorem wf_462_292 : rx_ft (rt_P sc fm) 462 292 = some (15, 97) := (by decide +kernel : rt_ft 462 292 = some (15, 97))
theorem wf_462_296 : rx_ft (rt_P sc fm) 462 296 = some (15, 98) := (by decide +kernel : rt_ft 462 296 = some (15, 98))
theorem wf_462_302 : rx_ft (rt_P sc fm) 462 302 = some (15, 100) := (by decide +kernel : rt_ft 462 302 = some (15, 100))
theorem wi_462_0 : ri (rt_P sc fm) 462 0 (.bipush 40) (2) := ri_of (by decide +kernel) rfl
theorem wi_462_10 : ri (rt_P sc fm) 462 10 (.iadd) (11) := ri_of (by decide +kernel) rfl
theorem wi_462_100 : ri (rt_P sc fm) 462 100 (.if_icmp .ne 32) (103) := ri_of (by decide +kernel) rfl
theorem wi_462_103 : ri (rt_P sc fm) 462 103 (.aload_n 0) (104) := ri_of (by decide +kernel) rfl
theorem wi_462_104 : ri (rt_P sc fm) 462 104 (.getfield 274) (107) := ri_of (by decide +kernel) rfl
theorem wi_462_107 : ri (rt_P sc fm) 462 107 (.iload 6) (109) := ri_of (by decide +kernel) rfl
theorem wi_462_109 : ri (rt_P sc fm) 462 109 (.aload_n 0) (110) := ri_of (by decide +kernel) rfl
theorem wi_462_11 : ri (rt_P sc fm) 462 11 (.istore 5) (13) := ri_of (by decide +kernel) rfl
theorem wi_462_110 : ri (rt_P sc fm) 462 110 (.aload_n 0) (111) := ri_of (by decide +kernel) rfl
theorem wi_462_111 : ri (rt_P sc fm) 462 111 (.getfield 292) (114) := ri_of (by decide +kernel) rfl
theorem wi_462_114 : ri (rt_P sc fm) 462 114 (.aload_n 0) (115) := ri_of (by decide +kernel) rfl
theorem wi_462_115 : ri (rt_P sc fm) 462 115 (.getfield 274) (118) := ri_of (by decide +kernel) rfl
theorem wi_462_118 : ri (rt_P sc fm) 462 118 (.iload 6) (120) := ri_of (by decide +kernel) rfl
theorem wi_462_120 : ri (rt_P sc fm) 462 120 (.iaload) (121) := ri_of (by decide +kernel) rfl
theorem wi_462_121 : ri (rt_P sc fm) 462 121 (.aload_n 0) (122) := ri_of (by decide +kernel) rfl
theorem wi_462_122 : ri (rt_P sc fm) 462 122 (.getfield 197) (125) := ri_of (by decide +kernel) rfl
theorem wi_462_125 : ri (rt_P sc fm) 462 125 (.iload 5) (127) := ri_of (by decide +kernel) rfl
theorem wi_462_127 : ri (rt_P sc fm) 462 127 (.iaload) (128) := ri_of (by decide +kernel) rfl
theorem wi_462_128 : ri (rt_P sc fm) 462 128 (.invokevirtual 730) (131) := ri_of (by decide +kernel) rfl
theorem wi_462_13 : ri (rt_P sc fm) 462 13 (.iconst 0) (14) := ri_of (by decide +kernel) rfl
theorem wi_462_131 : ri (rt_P sc fm) 462 131 (.iastore) (132) := ri_of (by decide +kernel) rfl
theorem wi_462_132 : ri (rt_P sc fm) 462 132 (.aload_n 0) (133) := ri_of (by decide +kernel) rfl
theorem wi_462_133 : ri (rt_P sc fm) 462 133 (.iload_n 1) (134) := ri_of (by decide +kernel) rfl
theorem wi_462_134 : ri (rt_P sc fm) 462 134 (.iload 4) (136) := ri_of (by decide +kernel) rfl
theorem wi_462_136 : ri (rt_P sc fm) 462 136 (.ifCond .eq 13) (139) := ri_of (by decide +kernel) rfl
theorem wi_462_139 : ri (rt_P sc fm) 462 139 (.aload_n 0) (140) := ri_of (by decide +kernel) rfl
theorem wi_462_14 : ri (rt_P sc fm) 462 14 (.istore 6) (16) := ri_of (by decide +kernel) rfl
theorem wi_462_140 : ri (rt_P sc fm) 462 140 (.getfield 200) (143) := ri_of (by decide +kernel) rfl
theorem wi_462_143 : ri (rt_P sc fm) 462 143 (.iload 5) (145) := ri_of (by decide +kernel) rfl
theorem wi_462_145 : ri (rt_P sc fm) 462 145 (.iaload) (146) := ri_of (by decide +kernel) rfl
theorem wi_462_146 : ri (rt_P sc fm) 462 146 (.goto 11) (149) := ri_of (by decide +kernel) rfl
theorem wi_462_149 : ri (rt_P sc fm) 462 149 (.aload_n 0) (150) := ri_of (by decide +kernel) rfl
theorem wi_462_150 : ri (rt_P sc fm) 462 150 (.getfield 296) (153) := ri_of (by decide +kernel) rfl
theorem wi_462_153 : ri (rt_P sc fm) 462 153 (.iload_n 2) (154) := ri_of (by decide +kernel) rfl
theorem wi_462_154 : ri (rt_P sc fm) 462 154 (.iaload) (155) := ri_of (by decide +kernel) rfl
theorem wi_462_155 : ri (rt_P sc fm) 462 155 (.iconst 1) (156) := ri_of (by decide +kernel) rfl
theorem wi_462_156 : ri (rt_P sc fm) 462 156 (.iadd) (157) := ri_of (by decide +kernel) rfl
theorem wi_462_157 : ri (rt_P sc fm) 462 157 (.iload_n 2) (158) := ri_of (by decide +kernel) rfl
theorem wi_462_158 : ri (rt_P sc fm) 462 158 (.iload_n 3) (159) := ri_of (by decide +kernel) rfl
theorem wi_462_159 : ri (rt_P sc fm) 462 159 (.invokevirtual 886) (162) := ri_of (by decide +kernel) rfl
theorem wi_462_16 : ri (rt_P sc fm) 462 16 (.iload 6) (18) := ri_of (by decide +kernel) rfl
theorem wi_462_162 : ri (rt_P sc fm) 462 162 (.return_) (163) := ri_of (by decide +kernel) rfl
theorem wi_462_18 : ri (rt_P sc fm) 462 18 (.bipush 16) (20) := ri_of (by decide +kernel) rfl
theorem wi_462_2 : ri (rt_P sc fm) 462 2 (.iload_n 1) (3) := ri_of (by decide +kernel) rfl
theorem wi_462_20 : ri (rt_P sc fm) 462 20 (.if_icmp .ge 28) (23) := ri_of (by decide +kernel) rfl
theorem wi_462_23 : ri (rt_P sc fm) 462 23 (.aload_n 0) (24) := ri_of (by decide +kernel) rfl
theorem wi_462_24 : ri (rt_P sc fm) 462 24 (.getfield 274) (27) := ri_of (by decide +kernel) rfl
theorem wi_462_27 : ri (rt_P sc fm) 462 27 (.iload 6) (29) := ri_of (by decide +kernel) rfl
theorem wi_462_29 : ri (rt_P sc fm) 462 29 (.aload_n 0) (30) := ri_of (by decide +kernel) rfl
theorem wi_462_3 : ri (rt_P sc fm) 462 3 (.imul) (4) := ri_of (by decide +kernel) rfl
theorem wi_462_30 : ri (rt_P sc fm) 462 30 (.getfield 302) (33) := ri_of (by decide +kernel) rfl
theorem wi_462_33 : ri (rt_P sc fm) 462 33 (.bipush 16) (35) := ri_of (by decide +kernel) rfl
theorem wi_462_35 : ri (rt_P sc fm) 462 35 (.iload_n 2) (36) := ri_of (by decide +kernel) rfl
theorem wi_462_36 : ri (rt_P sc fm) 462 36 (.imul) (37) := ri_of (by decide +kernel) rfl
theorem wi_462_37 : ri (rt_P sc fm) 462 37 (.iload 6) (39) := ri_of (by decide +kernel) rfl
theorem wi_462_39 : ri (rt_P sc fm) 462 39 (.iadd) (40) := ri_of (by decide +kernel) rfl
theorem wi_462_4 : ri (rt_P sc fm) 462 4 (.aload_n 0) (5) := ri_of (by decide +kernel) rfl
theorem wi_462_40 : ri (rt_P sc fm) 462 40 (.iaload) (41) := ri_of (by decide +kernel) rfl
theorem wi_462_41 : ri (rt_P sc fm) 462 41 (.iastore) (42) := ri_of (by decide +kernel) rfl
theorem wi_462_42 : ri (rt_P sc fm) 462 42 (.iinc 6 1) (45) := ri_of (by decide +kernel) rfl
theorem wi_462_45 : ri (rt_P sc fm) 462 45 (.goto (-29)) (48) := ri_of (by decide +kernel) rfl
theorem wi_462_48 : ri (rt_P sc fm) 462 48 (.aload_n 0) (49) := ri_of (by decide +kernel) rfl
theorem wi_462_49 : ri (rt_P sc fm) 462 49 (.iload 5) (51) := ri_of (by decide +kernel) rfl
theorem wi_462_5 : ri (rt_P sc fm) 462 5 (.getfield 296) (8) := ri_of (by decide +kernel) rfl
theorem wi_462_51 : ri (rt_P sc fm) 462 51 (.aload_n 0) (52) := ri_of (by decide +kernel) rfl
theorem wi_462_52 : ri (rt_P sc fm) 462 52 (.getfield 292) (55) := ri_of (by decide +kernel) rfl
theorem wi_462_55 : ri (rt_P sc fm) 462 55 (.invokevirtual 850) (58) := ri_of (by decide +kernel) rfl
theorem wi_462_58 : ri (rt_P sc fm) 462 58 (.bipush 8) (60) := ri_of (by decide +kernel) rfl
theorem wi_462_60 : ri (rt_P sc fm) 462 60 (.aload_n 0) (61) := ri_of (by decide +kernel) rfl
theorem wi_462_61 : ri (rt_P sc fm) 462 61 (.getfield 243) (64) := ri_of (by decide +kernel) rfl
theorem wi_462_64 : ri (rt_P sc fm) 462 64 (.iload 5) (66) := ri_of (by decide +kernel) rfl
theorem wi_462_66 : ri (rt_P sc fm) 462 66 (.iaload) (67) := ri_of (by decide +kernel) rfl
theorem wi_462_67 : ri (rt_P sc fm) 462 67 (.iadd) (68) := ri_of (by decide +kernel) rfl
theorem wi_462_68 : ri (rt_P sc fm) 462 68 (.iconst 1) (69) := ri_of (by decide +kernel) rfl
theorem wi_462_69 : ri (rt_P sc fm) 462 69 (.isub) (70) := ri_of (by decide +kernel) rfl
theorem wi_462_70 : ri (rt_P sc fm) 462 70 (.istore 6) (72) := ri_of (by decide +kernel) rfl
theorem wi_462_72 : ri (rt_P sc fm) 462 72 (.iload 4) (74) := ri_of (by decide +kernel) rfl
theorem wi_462_74 : ri (rt_P sc fm) 462 74 (.ifCond .eq 58) (77) := ri_of (by decide +kernel) rfl
theorem wi_462_77 : ri (rt_P sc fm) 462 77 (.aload_n 0) (78) := ri_of (by decide +kernel) rfl
theorem wi_462_78 : ri (rt_P sc fm) 462 78 (.getfield 185) (81) := ri_of (by decide +kernel) rfl
theorem wi_462_8 : ri (rt_P sc fm) 462 8 (.iload_n 2) (9) := ri_of (by decide +kernel) rfl
theorem wi_462_81 : ri (rt_P sc fm) 462 81 (.iload 5) (83) := ri_of (by decide +kernel) rfl
theorem wi_462_83 : ri (rt_P sc fm) 462 83 (.iaload) (84) := ri_of (by decide +kernel) rfl
theorem wi_462_84 : ri (rt_P sc fm) 462 84 (.bipush 29) (86) := ri_of (by decide +kernel) rfl
theorem wi_462_86 : ri (rt_P sc fm) 462 86 (.if_icmp .ne 46) (89) := ri_of (by decide +kernel) rfl
theorem wi_462_89 : ri (rt_P sc fm) 462 89 (.aload_n 0) (90) := ri_of (by decide +kernel) rfl
theorem wi_462_9 : ri (rt_P sc fm) 462 9 (.iaload) (10) := ri_of (by decide +kernel) rfl
theorem wi_462_90 : ri (rt_P sc fm) 462 90 (.getfield 194) (93) := ri_of (by decide +kernel) rfl
theorem wi_462_93 : ri (rt_P sc fm) 462 93 (.iload 5) (95) := ri_of (by decide +kernel) rfl
theorem wi_462_95 : ri (rt_P sc fm) 462 95 (.iaload) (96) := ri_of (by decide +kernel) rfl
theorem wi_462_96 : ri (rt_P sc fm) 462 96 (.aload_n 0) (97) := ri_of (by decide +kernel) rfl
theorem wi_462_97 : ri (rt_P sc fm) 462 97 (.getfield 292) (100) := ri_of (by decide +kernel) rfl
theorem wm_461 : rx_ml (rt_P sc fm) 461 = 10 := (by decide +kernel : rt_ml 461 = 10)
theorem wr_462 : rx_rt (rt_P sc fm) 462 = none := (by decide +kernel : rt_rt 462 = none)
/-- MarkHouseModel.goes(IIIZ)V -/
def d_462 (n : Nat) (a1 : Int32) (a2 : Int32) (a3 : Int32) (a4 : Int32) (c : cS) : Option (cS) :=
  if ib a2 400 then
  lt (((40 * a1) + (c.1 246 (ix a2))) : Int32) (fun v3 =>
  Option.bind (whl (R := (cS)) (fun s6 : Int32 × cS =>
    if 16 ≤ s6.1 then
      some (.inr s6.2)
    else
      if ib ((16 * a2) + s6.1) 6400 then
      if ib s6.1 16 then
      lt (pI s6.2 240 (ix s6.1) (s6.2.1 248 (ix ((16 * a2) + s6.1)))) (fun c9 =>
      lt (s6.1 + 1 : Int32) (fun v12 =>
      some (.inl (v12, c9))))
      else none
      else none) n (0, c))
  (fun x14 : cS =>
    Option.bind (d_454 n v3 (x14.1 174 97) x14) (fun r15 =>
    if ib v3 3840 then
    lt (((8 + (r15.1 230 (ix v3))) - 1) : Int32) (fun v18 =>
    jn (fun p20 : cS =>
      jn (fun p21 : Int32 =>
        Option.bind (d_461 n a1 p21 a2 a3 p20) (fun r22 =>
        some r22))
      (fun j157 =>
      if a4 = 0 then
        if ib a2 400 then
        j157 ((p20.1 246 (ix a2)) + 1)
        else none
      else
        if ib v3 3840 then
        j157 (p20.1 216 (ix v3))
        else none))
    (fun j132 =>
    if a4 = 0 then
      j132 r15
    else
      if ib v3 3840 then
      if (r15.1 211 (ix v3)) = 29 then
        if ib v3 3840 then
        if (r15.1 214 (ix v3)) = (r15.1 174 97) then
          if ib v18 16 then
          if ib v3 3840 then
          Option.bind (d_391 n (r15.1 174 97) (r15.1 240 (ix v18)) (r15.1 215 (ix v3)) r15) (fun v29 =>
          if ib v18 16 then
          lt (pI r15 240 (ix v18) v29) (fun c31 =>
          j132 c31)
          else none)
          else none
          else none
        else
          j132 r15
        else none
      else
        j132 r15
      else none))
    else none)))
  else none
theorem sp_462 {F Lo n : Nat} {a1 : Int32} {a2 : Int32} {a3 : Int32} {a4 : Int32} {c y : cS} {w : cW} {K : cS → Prop} {Q : ((Option Value) ⊕ String) → List va_E → Prop} (hw : rOK fm w) (hF : 3 ≤ F) (hLo : 75 ≤ Lo)  (h : wp (d_462 n a1 a2 a3 a4 c) K) (hQ : ∀ r, K r → Q (.inl none) (hq false r y w)) : rs (rt_P sc fm) 462 F Lo 0 [(0, .ref 174), (1, .int a1), (2, .int a2), (3, .int a3), (4, .int a4)] [] (hq false c y w) Q := by
  unfold d_462 at h
  obtain ⟨lv, elv⟩ : ∃ lv : rx_L, lv = [(0, .ref 174), (1, .int a1), (2, .int a2), (3, .int a3), (4, .int a4)] := ⟨_, rfl⟩
  rw [← elv]
  have l0 : rx_ld lv 0 = some (.ref 174) := by rw [elv]; rfl
  have l1 : rx_ld lv 1 = some (.int a1) := by rw [elv]; rfl
  have l2 : rx_ld lv 2 = some (.int a2) := by rw [elv]; rfl
  have l3 : rx_ld lv 3 = some (.int a3) := by rw [elv]; rfl
  have l4 : rx_ld lv 4 = some (.int a4) := by rw [elv]; rfl
  refine rs_pure wi_462_0 rfl ?_
  refine rs_topi (v := 40) (by decide) ?_
  refine rs_ildn wi_462_2 l1 ?_
  refine rs_pure wi_462_3 rfl ?_
  refine rs_aldn wi_462_4 l0 ?_
  refine dq_gr wi_462_5 wf_462_296 tf_174_98 ?_
  refine rs_ildn wi_462_8 l2 ?_
  obtain ⟨g1, h⟩ := wp_gd h
  refine dq_iald wi_462_9 t_246 g1 ?_
  refine rs_pure wi_462_10 rfl ?_
  obtain ⟨v3, e4, h⟩ := wp_lt h
  refine rs_topi e4 ?_
  refine dl_ist wi_462_11 rfl (fun lv l5 t2 => ?_)
  have l0 := t2 _ _ (by decide) (Or.inl rfl) l0
  have l1 := t2 _ _ (by decide) (Or.inl rfl) l1
  have l2 := t2 _ _ (by decide) (Or.inl rfl) l2
  have l3 := t2 _ _ (by decide) (Or.inl rfl) l3
  have l4 := t2 _ _ (by decide) (Or.inl rfl) l4
  refine rs_pure wi_462_13 rfl ?_
  refine rs_topi (v := 0) (by decide) ?_
  refine dl_ist wi_462_14 rfl (fun lv l6 t5 => ?_)
  have l0 := t5 _ _ (by decide) (Or.inl rfl) l0
  have l1 := t5 _ _ (by decide) (Or.inl rfl) l1
  have l2 := t5 _ _ (by decide) (Or.inl rfl) l2
  have l3 := t5 _ _ (by decide) (Or.inl rfl) l3
  have l4 := t5 _ _ (by decide) (Or.inl rfl) l4
  have l5 := t5 _ _ (by decide) (Or.inl rfl) l5
  refine whl_ex (A := fun s6 : Int32 × cS => ∀ lv, rx_ld lv 0 = some (.ref 174) → rx_ld lv 1 = some (.int a1) → rx_ld lv 2 = some (.int a2) → rx_ld lv 3 = some (.int a3) → rx_ld lv 4 = some (.int a4) → rx_ld lv 5 = some (.int v3) → rx_ld lv 6 = some (.int s6.1) → rs (rt_P sc fm) 462 F Lo 16 lv [] (hq false s6.2 y w) Q) (B := (fun x14 : cS => ∀ lv, rx_ld lv 0 = some (.ref 174) → rx_ld lv 1 = some (.int a1) → rx_ld lv 2 = some (.int a2) → rx_ld lv 3 = some (.int a3) → rx_ld lv 4 = some (.int a4) → rx_ld lv 5 = some (.int v3) → rs (rt_P sc fm) 462 F Lo 48 lv [] (hq false x14 y w) Q)) ?_ ?_ _ _ (wp_bind h) _ l0 l1 l2 l3 l4 l5 l6
  · intro s6 h lv l0 l1 l2 l3 l4 l5 l6
    refine rs_ild wi_462_16 l6 ?_
    refine rs_pure wi_462_18 rfl ?_
    refine rs_topi (v := 16) (by decide) ?_
    refine rs_icge (tg := 48) wi_462_20 ⟨by decide, by decide⟩ (fun q => ?_) (fun q => ?_)
    ·
      have h := wp_pos h q
      exact h _ l0 l1 l2 l3 l4 l5
    ·
      have h := wp_neg h q
      refine rs_aldn wi_462_23 l0 ?_
      refine dq_gr wi_462_24 wf_462_274 tf_174_89 ?_
      refine rs_ild wi_462_27 l6 ?_
      refine rs_aldn wi_462_29 l0 ?_
      refine dq_gr wi_462_30 wf_462_302 tf_174_100 ?_
      refine rs_pure wi_462_33 rfl ?_
      refine rs_topi (v := 16) (by decide) ?_
      refine rs_ildn wi_462_35 l2 ?_
      refine rs_pure wi_462_36 rfl ?_
      refine rs_ild wi_462_37 l6 ?_
      refine rs_pure wi_462_39 rfl ?_
      obtain ⟨g7, h⟩ := wp_gd h
      refine dq_iald wi_462_40 t_248 g7 ?_
      obtain ⟨g8, h⟩ := wp_gd h
      obtain ⟨c9, e10, h⟩ := wp_lt h
      refine dq_iast wi_462_41 t_240 g8 e10 ?_
      obtain ⟨v12, e13, h⟩ := wp_lt h
      refine dl_inc wi_462_42 l6 rfl e13 (fun lv l6 t11 => ?_)
      have l0 := t11 _ _ (by decide) (Or.inl rfl) l0
      have l1 := t11 _ _ (by decide) (Or.inl rfl) l1
      have l2 := t11 _ _ (by decide) (Or.inl rfl) l2
      have l3 := t11 _ _ (by decide) (Or.inl rfl) l3
      have l4 := t11 _ _ (by decide) (Or.inl rfl) l4
      have l5 := t11 _ _ (by decide) (Or.inl rfl) l5
      refine rs_goto (tg := 16) wi_462_45 ⟨by decide, by decide⟩ ?_
      exact h _ l0 l1 l2 l3 l4 l5 l6
  ·
    intro x14 h lv l0 l1 l2 l3 l4 l5
    refine rs_aldn wi_462_48 l0 ?_
    refine rs_ild wi_462_49 l5 ?_
    refine rs_aldn wi_462_51 l0 ?_
    refine dq_gi wi_462_52 wf_462_292 tf_174_97 ?_
    refine rs_V wi_462_55 wc_462_850 rfl (dq_isa tf_174_0 wa_15_454) (Nat.le_trans (by decide) hF) (ml_le wm_454 (Nat.le_trans (by decide) hLo)) rfl (sp_454 hw (Nat.le_trans (by decide : 2 ≤ 3 - 1) (Nat.sub_le_sub_right hF 1)) (ml_sub wm_454 (Nat.le_trans (by decide : 46 ≤ 75 - 24) (Nat.sub_le_sub_right hLo 24))) (wp_bind h) (fun r15 h => rs_back0 ?_))
    refine rs_pure wi_462_58 rfl ?_
    refine rs_topi (v := 8) (by decide) ?_
    refine rs_aldn wi_462_60 l0 ?_
    refine dq_gr wi_462_61 wf_462_243 tf_174_70 ?_
    refine rs_ild wi_462_64 l5 ?_
    obtain ⟨g16, h⟩ := wp_gd h
    refine dq_iald wi_462_66 t_230 g16 ?_
    refine rs_pure wi_462_67 rfl ?_
    refine rs_pure wi_462_68 rfl ?_
    refine rs_topi (v := 1) (by decide) ?_
    refine rs_pure wi_462_69 rfl ?_
    obtain ⟨v18, e19, h⟩ := wp_lt h
    refine rs_topi e19 ?_
    refine dl_ist wi_462_70 rfl (fun lv l6 t17 => ?_)
    have l0 := t17 _ _ (by decide) (Or.inl rfl) l0
    have l1 := t17 _ _ (by decide) (Or.inl rfl) l1
    have l2 := t17 _ _ (by decide) (Or.inl rfl) l2
    have l3 := t17 _ _ (by decide) (Or.inl rfl) l3
    have l4 := t17 _ _ (by decide) (Or.inl rfl) l4
    have l5 := t17 _ _ (by decide) (Or.inl rfl) l5
    refine rs_ild wi_462_72 l4 ?_
    refine wp_jn (B := fun p20 : cS => ∀ lv, rx_ld lv 0 = some (.ref 174) → rx_ld lv 1 = some (.int a1) → rx_ld lv 2 = some (.int a2) → rx_ld lv 3 = some (.int a3) → rx_ld lv 4 = some (.int a4) → rx_ld lv 5 = some (.int v3) → rs (rt_P sc fm) 462 F Lo 132 lv [] (hq false p20 y w) Q) h (fun p20 h lv l0 l1 l2 l3 l4 l5 => ?_) (fun j132 hj132 h => ?_)
    ·
      refine rs_aldn wi_462_132 l0 ?_
      refine rs_ildn wi_462_133 l1 ?_
      refine rs_ild wi_462_134 l4 ?_
      refine wp_jn (B := fun p21 : Int32 => ∀ lv, rx_ld lv 2 = some (.int a2) → rx_ld lv 3 = some (.int a3) → rs (rt_P sc fm) 462 F Lo 157 lv [.int p21, .int a1, .ref 174] (hq false p20 y w) Q) h (fun p21 h lv l2 l3 => ?_) (fun j157 hj157 h => ?_)
      ·
        refine rs_ildn wi_462_157 l2 ?_
        refine rs_ildn wi_462_158 l3 ?_
        refine rs_V wi_462_159 wc_462_886 rfl (dq_isa tf_174_0 wa_15_461) (Nat.le_trans (by decide) hF) (ml_le wm_461 (Nat.le_trans (by decide) hLo)) rfl (sp_461 hw (Nat.le_trans (by decide : 2 ≤ 3 - 1) (Nat.sub_le_sub_right hF 1)) (ml_sub wm_461 (Nat.le_trans (by decide : 46 ≤ 75 - 29) (Nat.sub_le_sub_right hLo 29))) (wp_bind h) (fun r22 h => rs_back0 ?_))
        exact rs_vret wi_462_162 wr_462 (hQ r22 h)
      refine rs_ifeq (tg := 149) wi_462_136 ⟨by decide, by decide⟩ (fun q => ?_) (fun q => ?_)
      ·
        have h := wp_pos h q
        refine rs_aldn wi_462_149 l0 ?_
        refine dq_gr wi_462_150 wf_462_296 tf_174_98 ?_
        refine rs_ildn wi_462_153 l2 ?_
        obtain ⟨g23, h⟩ := wp_gd h
        refine dq_iald wi_462_154 t_246 g23 ?_
        refine rs_pure wi_462_155 rfl ?_
        refine rs_topi (v := 1) (by decide) ?_
        refine rs_pure wi_462_156 rfl ?_
        exact hj157 _ h _ l2 l3
      ·
        have h := wp_neg h q
        refine rs_aldn wi_462_139 l0 ?_
        refine dq_gr wi_462_140 wf_462_200 tf_174_54 ?_
        refine rs_ild wi_462_143 l5 ?_
        obtain ⟨g24, h⟩ := wp_gd h
        refine dq_iald wi_462_145 t_216 g24 ?_
        refine rs_goto (tg := 157) wi_462_146 ⟨by decide, by decide⟩ ?_
        exact hj157 _ h _ l2 l3
    refine rs_ifeq (tg := 132) wi_462_74 ⟨by decide, by decide⟩ (fun q => ?_) (fun q => ?_)
    ·
      have h := wp_pos h q
      exact hj132 _ h _ l0 l1 l2 l3 l4 l5
    ·
      have h := wp_neg h q
      refine rs_aldn wi_462_77 l0 ?_
      refine dq_gr wi_462_78 wf_462_185 tf_174_49 ?_
      refine rs_ild wi_462_81 l5 ?_
      obtain ⟨g25, h⟩ := wp_gd h
      refine dq_iald wi_462_83 t_211 g25 ?_
      refine rs_pure wi_462_84 rfl ?_
      refine rs_topi (v := 29) (by decide) ?_
      refine rs_icne (tg := 132) wi_462_86 ⟨by decide, by decide⟩ (fun q => ?_) (fun q => ?_)
      ·
        have h := wp_neg h q
        exact hj132 _ h _ l0 l1 l2 l3 l4 l5
      ·
        have h := wp_pos h q
        refine rs_aldn wi_462_89 l0 ?_
        refine dq_gr wi_462_90 wf_462_194 tf_174_52 ?_
        refine rs_ild wi_462_93 l5 ?_
        obtain ⟨g26, h⟩ := wp_gd h
        refine dq_iald wi_462_95 t_214 g26 ?_
        refine rs_aldn wi_462_96 l0 ?_
        refine dq_gi wi_462_97 wf_462_292 tf_174_97 ?_
        refine rs_icne (tg := 132) wi_462_100 ⟨by decide, by decide⟩ (fun q => ?_) (fun q => ?_)
        ·
          have h := wp_neg h q
          exact hj132 _ h _ l0 l1 l2 l3 l4 l5
        ·
          have h := wp_pos h q
          refine rs_aldn wi_462_103 l0 ?_
          refine dq_gr wi_462_104 wf_462_274 tf_174_89 ?_
          refine rs_ild wi_462_107 l6 ?_
          refine rs_aldn wi_462_109 l0 ?_
          refine rs_aldn wi_462_110 l0 ?_
          refine dq_gi wi_462_111 wf_462_292 tf_174_97 ?_
          refine rs_aldn wi_462_114 l0 ?_
          refine dq_gr wi_462_115 wf_462_274 tf_174_89 ?_
          refine rs_ild wi_462_118 l6 ?_
          obtain ⟨g27, h⟩ := wp_gd h
          refine dq_iald wi_462_120 t_240 g27 ?_
          refine rs_aldn wi_462_121 l0 ?_
          refine dq_gr wi_462_122 wf_462_197 tf_174_53 ?_
          refine rs_ild wi_462_125 l5 ?_
          obtain ⟨g28, h⟩ := wp_gd h
          refine dq_iald wi_462_127 t_215 g28 ?_
          refine rs_V wi_462_128 wc_462_730 rfl (dq_isa tf_174_0 wa_15_391) (Nat.le_trans (by decide) hF) (ml_le wm_391 (Nat.le_trans (by decide) hLo)) rfl (sp_391 hw (Nat.le_trans (by decide : 1 ≤ 3 - 1) (Nat.sub_le_sub_right hF 1)) (ml_sub wm_391 (Nat.le_trans (by decide : 23 ≤ 75 - 23) (Nat.sub_le_sub_right hLo 23))) (wp_bind h) (fun v29 h => rs_back1 ?_))
          obtain ⟨g30, h⟩ := wp_gd h
          obtain ⟨c31, e32, h⟩ := wp_lt h
          refine dq_iast wi_462_131 t_240 g30 e32 ?_
          exact hj132 _ h _ l0 l1 l2 l3 l4 l5
theorem t_249 : ta false 249 0 400 := ⟨rfl, by decide, by decide⟩
theorem tf_174_103 : fo false 174 15 103 (.ref 249) := ⟨_, rfl, rfl, by decide, by decide⟩
theorem wa_15_462 : rz_cn 15 (rx_yn (rt_P sc fm) 462).cls = true := (by decide +kernel : rz_cn 15 (rt_yn 462).cls = true)
theorem wc_129_844 : rx_ct (rt_P sc fm) 129 844 = some (0, 452, 2) := (by decide +kernel : rt_ct 129 844 = some (0, 452, 2))
theorem wc_129_856 : rx_ct (rt_P sc fm) 129 856 = some (0, 450, 1) := (by decide +kernel : rt_ct 129 856 = some (0, 450, 1))
theorem wc_129_886 : rx_ct (rt_P sc fm) 129 886 = some (0, 461, 4) := (by decide +kernel : rt_ct 129 886 = some (0, 461, 4))
theorem wc_129_890 : rx_ct (rt_P sc fm) 129 890 = some (0, 462, 4) := (by decide +kernel : rt_ct 129 890 = some (0, 462, 4))
theorem wf_129_185 : rx_ft (rt_P sc fm) 129 185 = some (15, 49) := (by decide +kernel : rt_ft 129 185 = some (15, 49))
theorem wf_129_200 : rx_ft (rt_P sc fm) 129 200 = some (15, 54) := (by decide +kernel : rt_ft 129 200 = some (15, 54))
theorem wf_129_277 : rx_ft (rt_P sc fm) 129 277 = some (15, 92) := (by decide +kernel : rt_ft 129 277 = some (15, 92))
theorem wf_129_292 : rx_ft (rt_P sc fm) 129 292 = some (15, 97) := (by decide +kernel : rt_ft 129 292 = some (15, 97))
theorem wf_129_296 : rx_ft (rt_P sc fm) 129 296 = some (15, 98) := (by decide +kernel : rt_ft 129 296 = some (15, 98))
theorem wf_129_299 : rx_ft (rt_P sc fm) 129 299 = some (15, 99) := (by decide +kernel : rt_ft 129 299 = some (15, 99))
theorem wf_129_305 : rx_ft (rt_P sc fm) 129 305 = some (15, 103) := (by decide +kernel : rt_ft 129 305 = some (15, 103))
theorem wf_129_859 : rx_ft (rt_P sc fm) 129 859 = some (15, 91) := (by decide +kernel : rt_ft 129 859 = some (15, 91))
theorem wf_129_874 : rx_ft (rt_P sc fm) 129 874 = some (15, 102) := (by decide +kernel : rt_ft 129 874 = some (15, 102))
theorem wf_129_877 : rx_ft (rt_P sc fm) 129 877 = some (15, 101) := (by decide +kernel : rt_ft 129 877 = some (15, 101))
theorem wf_129_880 : rx_ft (rt_P sc fm) 129 880 = some (15, 104) := (by decide +kernel : rt_ft 129 880 = some (15, 104))
theorem wf_129_883 : rx_ft (rt_P sc fm) 129 883 = some (15, 105) := (by decide +kernel : rt_ft 129 883 = some (15, 105))
theorem wi_129_0 : ri (rt_P sc fm) 129 0 (.aload_n 0) (1) := ri_of (by decide +kernel) rfl
theorem wi_129_1 : ri (rt_P sc fm) 129 1 (.iconst 0) (2) := ri_of (by decide +kernel) rfl
theorem wi_129_100 : ri (rt_P sc fm) 129 100 (.iload_n 2) (101) := ri_of (by decide +kernel) rfl
theorem wi_129_101 : ri (rt_P sc fm) 129 101 (.imul) (102) := ri_of (by decide +kernel) rfl
theorem wi_129_102 : ri (rt_P sc fm) 129 102 (.aload_n 0) (103) := ri_of (by decide +kernel) rfl
theorem wi_129_103 : ri (rt_P sc fm) 129 103 (.getfield 296) (106) := ri_of (by decide +kernel) rfl
theorem wi_129_106 : ri (rt_P sc fm) 129 106 (.iload 4) (108) := ri_of (by decide +kernel) rfl
theorem wi_129_108 : ri (rt_P sc fm) 129 108 (.iaload) (109) := ri_of (by decide +kernel) rfl
theorem wi_129_109 : ri (rt_P sc fm) 129 109 (.iadd) (110) := ri_of (by decide +kernel) rfl
theorem wi_129_110 : ri (rt_P sc fm) 129 110 (.istore 5) (112) := ri_of (by decide +kernel) rfl
theorem wi_129_112 : ri (rt_P sc fm) 129 112 (.aload_n 0) (113) := ri_of (by decide +kernel) rfl
theorem wi_129_113 : ri (rt_P sc fm) 129 113 (.getfield 185) (116) := ri_of (by decide +kernel) rfl
theorem wi_129_116 : ri (rt_P sc fm) 129 116 (.iload 5) (118) := ri_of (by decide +kernel) rfl
theorem wi_129_118 : ri (rt_P sc fm) 129 118 (.iaload) (119) := ri_of (by decide +kernel) rfl
theorem wi_129_119 : ri (rt_P sc fm) 129 119 (.bipush 21) (121) := ri_of (by decide +kernel) rfl
theorem wi_129_12 : ri (rt_P sc fm) 129 12 (.iload_n 1) (13) := ri_of (by decide +kernel) rfl
theorem wi_129_121 : ri (rt_P sc fm) 129 121 (.if_icmp .eq 19) (124) := ri_of (by decide +kernel) rfl
theorem wi_129_124 : ri (rt_P sc fm) 129 124 (.aload_n 0) (125) := ri_of (by decide +kernel) rfl
theorem wi_129_125 : ri (rt_P sc fm) 129 125 (.getfield 185) (128) := ri_of (by decide +kernel) rfl
theorem wi_129_128 : ri (rt_P sc fm) 129 128 (.iload 5) (130) := ri_of (by decide +kernel) rfl
theorem wi_129_13 : ri (rt_P sc fm) 129 13 (.ifCond .lt 11) (16) := ri_of (by decide +kernel) rfl
theorem wi_129_130 : ri (rt_P sc fm) 129 130 (.iaload) (131) := ri_of (by decide +kernel) rfl
theorem wi_129_131 : ri (rt_P sc fm) 129 131 (.bipush 27) (133) := ri_of (by decide +kernel) rfl
theorem wi_129_133 : ri (rt_P sc fm) 129 133 (.if_icmp .eq 7) (136) := ri_of (by decide +kernel) rfl
theorem wi_129_136 : ri (rt_P sc fm) 129 136 (.iconst 1) (137) := ri_of (by decide +kernel) rfl
theorem wi_129_137 : ri (rt_P sc fm) 129 137 (.goto 4) (140) := ri_of (by decide +kernel) rfl
theorem wi_129_140 : ri (rt_P sc fm) 129 140 (.iconst 0) (141) := ri_of (by decide +kernel) rfl
theorem wi_129_141 : ri (rt_P sc fm) 129 141 (.istore 6) (143) := ri_of (by decide +kernel) rfl
theorem wi_129_143 : ri (rt_P sc fm) 129 143 (.aload_n 0) (144) := ri_of (by decide +kernel) rfl
theorem wi_129_144 : ri (rt_P sc fm) 129 144 (.getfield 200) (147) := ri_of (by decide +kernel) rfl
theorem wi_129_147 : ri (rt_P sc fm) 129 147 (.iload 5) (149) := ri_of (by decide +kernel) rfl
theorem wi_129_149 : ri (rt_P sc fm) 129 149 (.iaload) (150) := ri_of (by decide +kernel) rfl
theorem wi_129_150 : ri (rt_P sc fm) 129 150 (.ifCond .lt 31) (153) := ri_of (by decide +kernel) rfl
theorem wi_129_153 : ri (rt_P sc fm) 129 153 (.iload 6) (155) := ri_of (by decide +kernel) rfl
theorem wi_129_155 : ri (rt_P sc fm) 129 155 (.ifCond .eq 22) (158) := ri_of (by decide +kernel) rfl
theorem wi_129_158 : ri (rt_P sc fm) 129 158 (.aload_n 0) (159) := ri_of (by decide +kernel) rfl
theorem wi_129_159 : ri (rt_P sc fm) 129 159 (.getfield 200) (162) := ri_of (by decide +kernel) rfl
theorem wi_129_16 : ri (rt_P sc fm) 129 16 (.iload_n 1) (17) := ri_of (by decide +kernel) rfl
theorem wi_129_162 : ri (rt_P sc fm) 129 162 (.iload 5) (164) := ri_of (by decide +kernel) rfl
theorem wi_129_164 : ri (rt_P sc fm) 129 164 (.iaload) (165) := ri_of (by decide +kernel) rfl
theorem wi_129_165 : ri (rt_P sc fm) 129 165 (.aload_n 0) (166) := ri_of (by decide +kernel) rfl
theorem wi_129_166 : ri (rt_P sc fm) 129 166 (.getfield 296) (169) := ri_of (by decide +kernel) rfl
theorem wi_129_169 : ri (rt_P sc fm) 129 169 (.iload 4) (171) := ri_of (by decide +kernel) rfl
theorem wi_129_17 : ri (rt_P sc fm) 129 17 (.aload_n 0) (18) := ri_of (by decide +kernel) rfl
theorem wi_129_171 : ri (rt_P sc fm) 129 171 (.iaload) (172) := ri_of (by decide +kernel) rfl
theorem wi_129_172 : ri (rt_P sc fm) 129 172 (.iconst 1) (173) := ri_of (by decide +kernel) rfl
theorem wi_129_173 : ri (rt_P sc fm) 129 173 (.iadd) (174) := ri_of (by decide +kernel) rfl
theorem wi_129_174 : ri (rt_P sc fm) 129 174 (.if_icmp .ge 7) (177) := ri_of (by decide +kernel) rfl
theorem wi_129_177 : ri (rt_P sc fm) 129 177 (.iconst 1) (178) := ri_of (by decide +kernel) rfl
theorem wi_129_178 : ri (rt_P sc fm) 129 178 (.goto 4) (181) := ri_of (by decide +kernel) rfl
theorem wi_129_18 : ri (rt_P sc fm) 129 18 (.getfield 859) (21) := ri_of (by decide +kernel) rfl
theorem wi_129_181 : ri (rt_P sc fm) 129 181 (.iconst 0) (182) := ri_of (by decide +kernel) rfl
theorem wi_129_182 : ri (rt_P sc fm) 129 182 (.istore 7) (184) := ri_of (by decide +kernel) rfl
theorem wi_129_184 : ri (rt_P sc fm) 129 184 (.iload 7) (186) := ri_of (by decide +kernel) rfl
theorem wi_129_186 : ri (rt_P sc fm) 129 186 (.ifCond .eq 12) (189) := ri_of (by decide +kernel) rfl
theorem wi_129_189 : ri (rt_P sc fm) 129 189 (.aload_n 0) (190) := ri_of (by decide +kernel) rfl
theorem wi_129_190 : ri (rt_P sc fm) 129 190 (.iload_n 2) (191) := ri_of (by decide +kernel) rfl
theorem wi_129_191 : ri (rt_P sc fm) 129 191 (.iload 4) (193) := ri_of (by decide +kernel) rfl
theorem wi_129_193 : ri (rt_P sc fm) 129 193 (.iload_n 1) (194) := ri_of (by decide +kernel) rfl
theorem wi_129_194 : ri (rt_P sc fm) 129 194 (.iconst 1) (195) := ri_of (by decide +kernel) rfl
theorem wi_129_195 : ri (rt_P sc fm) 129 195 (.invokevirtual 890) (198) := ri_of (by decide +kernel) rfl
theorem wi_129_198 : ri (rt_P sc fm) 129 198 (.iload 6) (200) := ri_of (by decide +kernel) rfl
theorem wi_129_2 : ri (rt_P sc fm) 129 2 (.putfield 356) (5) := ri_of (by decide +kernel) rfl
theorem wi_129_200 : ri (rt_P sc fm) 129 200 (.ifCond .eq 26) (203) := ri_of (by decide +kernel) rfl
theorem wi_129_203 : ri (rt_P sc fm) 129 203 (.aload_n 0) (204) := ri_of (by decide +kernel) rfl
theorem wi_129_204 : ri (rt_P sc fm) 129 204 (.getfield 883) (207) := ri_of (by decide +kernel) rfl
theorem wi_129_207 : ri (rt_P sc fm) 129 207 (.ifCond .ge 19) (210) := ri_of (by decide +kernel) rfl
theorem wi_129_21 : ri (rt_P sc fm) 129 21 (.if_icmp .lt 5) (24) := ri_of (by decide +kernel) rfl
theorem wi_129_210 : ri (rt_P sc fm) 129 210 (.aload_n 0) (211) := ri_of (by decide +kernel) rfl
theorem wi_129_211 : ri (rt_P sc fm) 129 211 (.getfield 880) (214) := ri_of (by decide +kernel) rfl
theorem wi_129_214 : ri (rt_P sc fm) 129 214 (.ifCond .ne 12) (217) := ri_of (by decide +kernel) rfl
theorem wi_129_217 : ri (rt_P sc fm) 129 217 (.aload_n 0) (218) := ri_of (by decide +kernel) rfl
theorem wi_129_218 : ri (rt_P sc fm) 129 218 (.iload_n 2) (219) := ri_of (by decide +kernel) rfl
theorem wi_129_219 : ri (rt_P sc fm) 129 219 (.iload 4) (221) := ri_of (by decide +kernel) rfl
theorem wi_129_221 : ri (rt_P sc fm) 129 221 (.iload_n 1) (222) := ri_of (by decide +kernel) rfl
theorem wi_129_222 : ri (rt_P sc fm) 129 222 (.iconst 0) (223) := ri_of (by decide +kernel) rfl
theorem wi_129_223 : ri (rt_P sc fm) 129 223 (.invokevirtual 890) (226) := ri_of (by decide +kernel) rfl
theorem wi_129_226 : ri (rt_P sc fm) 129 226 (.aload_n 0) (227) := ri_of (by decide +kernel) rfl
theorem wi_129_227 : ri (rt_P sc fm) 129 227 (.getfield 200) (230) := ri_of (by decide +kernel) rfl
theorem wi_129_230 : ri (rt_P sc fm) 129 230 (.iload 5) (232) := ri_of (by decide +kernel) rfl
theorem wi_129_232 : ri (rt_P sc fm) 129 232 (.iaload) (233) := ri_of (by decide +kernel) rfl
theorem wi_129_233 : ri (rt_P sc fm) 129 233 (.ifCond .lt 31) (236) := ri_of (by decide +kernel) rfl
theorem wi_129_236 : ri (rt_P sc fm) 129 236 (.iload 7) (238) := ri_of (by decide +kernel) rfl
theorem wi_129_238 : ri (rt_P sc fm) 129 238 (.ifCond .ne 26) (241) := ri_of (by decide +kernel) rfl
theorem wi_129_24 : ri (rt_P sc fm) 129 24 (.iconst (-1)) (25) := ri_of (by decide +kernel) rfl
theorem wi_129_241 : ri (rt_P sc fm) 129 241 (.aload_n 0) (242) := ri_of (by decide +kernel) rfl
theorem wi_129_242 : ri (rt_P sc fm) 129 242 (.getfield 883) (245) := ri_of (by decide +kernel) rfl
theorem wi_129_245 : ri (rt_P sc fm) 129 245 (.ifCond .ge 19) (248) := ri_of (by decide +kernel) rfl
theorem wi_129_248 : ri (rt_P sc fm) 129 248 (.aload_n 0) (249) := ri_of (by decide +kernel) rfl
theorem wi_129_249 : ri (rt_P sc fm) 129 249 (.getfield 880) (252) := ri_of (by decide +kernel) rfl
theorem wi_129_25 : ri (rt_P sc fm) 129 25 (.ireturn) (26) := ri_of (by decide +kernel) rfl
theorem wi_129_252 : ri (rt_P sc fm) 129 252 (.ifCond .ne 12) (255) := ri_of (by decide +kernel) rfl
theorem wi_129_255 : ri (rt_P sc fm) 129 255 (.aload_n 0) (256) := ri_of (by decide +kernel) rfl
theorem wi_129_256 : ri (rt_P sc fm) 129 256 (.iload_n 2) (257) := ri_of (by decide +kernel) rfl
theorem wi_129_257 : ri (rt_P sc fm) 129 257 (.iload 4) (259) := ri_of (by decide +kernel) rfl
theorem wi_129_259 : ri (rt_P sc fm) 129 259 (.iload_n 1) (260) := ri_of (by decide +kernel) rfl
theorem wi_129_26 : ri (rt_P sc fm) 129 26 (.aload_n 0) (27) := ri_of (by decide +kernel) rfl
theorem wi_129_260 : ri (rt_P sc fm) 129 260 (.iconst 1) (261) := ri_of (by decide +kernel) rfl
theorem wi_129_261 : ri (rt_P sc fm) 129 261 (.invokevirtual 890) (264) := ri_of (by decide +kernel) rfl
theorem wi_129_264 : ri (rt_P sc fm) 129 264 (.iinc 4 1) (267) := ri_of (by decide +kernel) rfl
theorem wi_129_267 : ri (rt_P sc fm) 129 267 (.goto (-192)) (270) := ri_of (by decide +kernel) rfl
theorem wi_129_27 : ri (rt_P sc fm) 129 27 (.getfield 277) (30) := ri_of (by decide +kernel) rfl
theorem wi_129_270 : ri (rt_P sc fm) 129 270 (.aload_n 0) (271) := ri_of (by decide +kernel) rfl
theorem wi_129_271 : ri (rt_P sc fm) 129 271 (.getfield 883) (274) := ri_of (by decide +kernel) rfl
theorem wi_129_274 : ri (rt_P sc fm) 129 274 (.ifCond .ge 17) (277) := ri_of (by decide +kernel) rfl
theorem wi_129_277 : ri (rt_P sc fm) 129 277 (.aload_n 0) (278) := ri_of (by decide +kernel) rfl
theorem wi_129_278 : ri (rt_P sc fm) 129 278 (.getfield 880) (281) := ri_of (by decide +kernel) rfl
theorem wi_129_281 : ri (rt_P sc fm) 129 281 (.ifCond .eq 8) (284) := ri_of (by decide +kernel) rfl
theorem wi_129_284 : ri (rt_P sc fm) 129 284 (.bipush (-2)) (286) := ri_of (by decide +kernel) rfl
theorem wi_129_286 : ri (rt_P sc fm) 129 286 (.goto 4) (289) := ri_of (by decide +kernel) rfl
theorem wi_129_289 : ri (rt_P sc fm) 129 289 (.iconst 0) (290) := ri_of (by decide +kernel) rfl
theorem wi_129_290 : ri (rt_P sc fm) 129 290 (.ireturn) (291) := ri_of (by decide +kernel) rfl
theorem wi_129_291 : ri (rt_P sc fm) 129 291 (.iconst 0) (292) := ri_of (by decide +kernel) rfl
theorem wi_129_292 : ri (rt_P sc fm) 129 292 (.istore 4) (294) := ri_of (by decide +kernel) rfl
theorem wi_129_294 : ri (rt_P sc fm) 129 294 (.aload_n 0) (295) := ri_of (by decide +kernel) rfl
theorem wi_129_295 : ri (rt_P sc fm) 129 295 (.getfield 883) (298) := ri_of (by decide +kernel) rfl
theorem wi_129_298 : ri (rt_P sc fm) 129 298 (.istore 5) (300) := ri_of (by decide +kernel) rfl
theorem wi_129_30 : ri (rt_P sc fm) 129 30 (.iload_n 1) (31) := ri_of (by decide +kernel) rfl
theorem wi_129_300 : ri (rt_P sc fm) 129 300 (.iload 5) (302) := ri_of (by decide +kernel) rfl
theorem wi_129_302 : ri (rt_P sc fm) 129 302 (.ifCond .lt 18) (305) := ri_of (by decide +kernel) rfl
theorem wi_129_305 : ri (rt_P sc fm) 129 305 (.iinc 4 1) (308) := ri_of (by decide +kernel) rfl
theorem wi_129_308 : ri (rt_P sc fm) 129 308 (.aload_n 0) (309) := ri_of (by decide +kernel) rfl
theorem wi_129_309 : ri (rt_P sc fm) 129 309 (.getfield 299) (312) := ri_of (by decide +kernel) rfl
theorem wi_129_31 : ri (rt_P sc fm) 129 31 (.iaload) (32) := ri_of (by decide +kernel) rfl
theorem wi_129_312 : ri (rt_P sc fm) 129 312 (.iload 5) (314) := ri_of (by decide +kernel) rfl
theorem wi_129_314 : ri (rt_P sc fm) 129 314 (.iaload) (315) := ri_of (by decide +kernel) rfl
theorem wi_129_315 : ri (rt_P sc fm) 129 315 (.istore 5) (317) := ri_of (by decide +kernel) rfl
theorem wi_129_317 : ri (rt_P sc fm) 129 317 (.goto (-17)) (320) := ri_of (by decide +kernel) rfl
theorem wi_129_32 : ri (rt_P sc fm) 129 32 (.istore_n 2) (33) := ri_of (by decide +kernel) rfl
theorem wi_129_320 : ri (rt_P sc fm) 129 320 (.aload_n 0) (321) := ri_of (by decide +kernel) rfl
theorem wi_129_321 : ri (rt_P sc fm) 129 321 (.iload 4) (323) := ri_of (by decide +kernel) rfl
theorem wi_129_323 : ri (rt_P sc fm) 129 323 (.putfield 874) (326) := ri_of (by decide +kernel) rfl
theorem wi_129_326 : ri (rt_P sc fm) 129 326 (.aload_n 0) (327) := ri_of (by decide +kernel) rfl
theorem wi_129_327 : ri (rt_P sc fm) 129 327 (.getfield 883) (330) := ri_of (by decide +kernel) rfl
theorem wi_129_33 : ri (rt_P sc fm) 129 33 (.aload_n 0) (34) := ri_of (by decide +kernel) rfl
theorem wi_129_330 : ri (rt_P sc fm) 129 330 (.istore 5) (332) := ri_of (by decide +kernel) rfl
theorem wi_129_332 : ri (rt_P sc fm) 129 332 (.iload 5) (334) := ri_of (by decide +kernel) rfl
theorem wi_129_334 : ri (rt_P sc fm) 129 334 (.ifCond .lt 32) (337) := ri_of (by decide +kernel) rfl
theorem wi_129_337 : ri (rt_P sc fm) 129 337 (.iinc 4 (-1)) (340) := ri_of (by decide +kernel) rfl
theorem wi_129_34 : ri (rt_P sc fm) 129 34 (.getfield 292) (37) := ri_of (by decide +kernel) rfl
theorem wi_129_340 : ri (rt_P sc fm) 129 340 (.aload_n 0) (341) := ri_of (by decide +kernel) rfl
theorem wi_129_341 : ri (rt_P sc fm) 129 341 (.getfield 305) (344) := ri_of (by decide +kernel) rfl
theorem wi_129_344 : ri (rt_P sc fm) 129 344 (.iload 4) (346) := ri_of (by decide +kernel) rfl
theorem wi_129_346 : ri (rt_P sc fm) 129 346 (.aload_n 0) (347) := ri_of (by decide +kernel) rfl
theorem wi_129_347 : ri (rt_P sc fm) 129 347 (.getfield 296) (350) := ri_of (by decide +kernel) rfl
theorem wi_129_350 : ri (rt_P sc fm) 129 350 (.iload 5) (352) := ri_of (by decide +kernel) rfl
theorem wi_129_352 : ri (rt_P sc fm) 129 352 (.iaload) (353) := ri_of (by decide +kernel) rfl
theorem wi_129_353 : ri (rt_P sc fm) 129 353 (.iastore) (354) := ri_of (by decide +kernel) rfl
theorem wi_129_354 : ri (rt_P sc fm) 129 354 (.aload_n 0) (355) := ri_of (by decide +kernel) rfl
theorem wi_129_355 : ri (rt_P sc fm) 129 355 (.getfield 299) (358) := ri_of (by decide +kernel) rfl
theorem wi_129_358 : ri (rt_P sc fm) 129 358 (.iload 5) (360) := ri_of (by decide +kernel) rfl
theorem wi_129_360 : ri (rt_P sc fm) 129 360 (.iaload) (361) := ri_of (by decide +kernel) rfl
theorem wi_129_361 : ri (rt_P sc fm) 129 361 (.istore 5) (363) := ri_of (by decide +kernel) rfl
theorem wi_129_363 : ri (rt_P sc fm) 129 363 (.goto (-31)) (366) := ri_of (by decide +kernel) rfl
theorem wi_129_366 : ri (rt_P sc fm) 129 366 (.aload_n 0) (367) := ri_of (by decide +kernel) rfl
theorem wi_129_367 : ri (rt_P sc fm) 129 367 (.getfield 874) (370) := ri_of (by decide +kernel) rfl
theorem wi_129_37 : ri (rt_P sc fm) 129 37 (.istore_n 3) (38) := ri_of (by decide +kernel) rfl
theorem wi_129_370 : ri (rt_P sc fm) 129 370 (.ireturn) (371) := ri_of (by decide +kernel) rfl
theorem wi_129_38 : ri (rt_P sc fm) 129 38 (.aload_n 0) (39) := ri_of (by decide +kernel) rfl
theorem wi_129_39 : ri (rt_P sc fm) 129 39 (.iload_n 3) (40) := ri_of (by decide +kernel) rfl
theorem wi_129_40 : ri (rt_P sc fm) 129 40 (.invokevirtual 856) (43) := ri_of (by decide +kernel) rfl
theorem wi_129_43 : ri (rt_P sc fm) 129 43 (.aload_n 0) (44) := ri_of (by decide +kernel) rfl
theorem wi_129_44 : ri (rt_P sc fm) 129 44 (.iconst 0) (45) := ri_of (by decide +kernel) rfl
theorem wi_129_45 : ri (rt_P sc fm) 129 45 (.putfield 877) (48) := ri_of (by decide +kernel) rfl
theorem wi_129_48 : ri (rt_P sc fm) 129 48 (.aload_n 0) (49) := ri_of (by decide +kernel) rfl
theorem wi_129_49 : ri (rt_P sc fm) 129 49 (.iconst 0) (50) := ri_of (by decide +kernel) rfl
theorem wi_129_5 : ri (rt_P sc fm) 129 5 (.aload_n 0) (6) := ri_of (by decide +kernel) rfl
theorem wi_129_50 : ri (rt_P sc fm) 129 50 (.putfield 880) (53) := ri_of (by decide +kernel) rfl
theorem wi_129_53 : ri (rt_P sc fm) 129 53 (.aload_n 0) (54) := ri_of (by decide +kernel) rfl
theorem wi_129_54 : ri (rt_P sc fm) 129 54 (.iconst (-1)) (55) := ri_of (by decide +kernel) rfl
theorem wi_129_55 : ri (rt_P sc fm) 129 55 (.putfield 883) (58) := ri_of (by decide +kernel) rfl
theorem wi_129_58 : ri (rt_P sc fm) 129 58 (.aload_n 0) (59) := ri_of (by decide +kernel) rfl
theorem wi_129_59 : ri (rt_P sc fm) 129 59 (.iload_n 2) (60) := ri_of (by decide +kernel) rfl
theorem wi_129_6 : ri (rt_P sc fm) 129 6 (.getfield 292) (9) := ri_of (by decide +kernel) rfl
theorem wi_129_60 : ri (rt_P sc fm) 129 60 (.iload_n 3) (61) := ri_of (by decide +kernel) rfl
theorem wi_129_61 : ri (rt_P sc fm) 129 61 (.invokevirtual 844) (64) := ri_of (by decide +kernel) rfl
theorem wi_129_64 : ri (rt_P sc fm) 129 64 (.aload_n 0) (65) := ri_of (by decide +kernel) rfl
theorem wi_129_65 : ri (rt_P sc fm) 129 65 (.iload_n 2) (66) := ri_of (by decide +kernel) rfl
theorem wi_129_66 : ri (rt_P sc fm) 129 66 (.iconst 0) (67) := ri_of (by decide +kernel) rfl
theorem wi_129_67 : ri (rt_P sc fm) 129 67 (.iconst (-1)) (68) := ri_of (by decide +kernel) rfl
theorem wi_129_68 : ri (rt_P sc fm) 129 68 (.iload_n 1) (69) := ri_of (by decide +kernel) rfl
theorem wi_129_69 : ri (rt_P sc fm) 129 69 (.invokevirtual 886) (72) := ri_of (by decide +kernel) rfl
theorem wi_129_72 : ri (rt_P sc fm) 129 72 (.iconst 0) (73) := ri_of (by decide +kernel) rfl
theorem wi_129_73 : ri (rt_P sc fm) 129 73 (.istore 4) (75) := ri_of (by decide +kernel) rfl
theorem wi_129_75 : ri (rt_P sc fm) 129 75 (.iload 4) (77) := ri_of (by decide +kernel) rfl
theorem wi_129_77 : ri (rt_P sc fm) 129 77 (.aload_n 0) (78) := ri_of (by decide +kernel) rfl
theorem wi_129_78 : ri (rt_P sc fm) 129 78 (.getfield 877) (81) := ri_of (by decide +kernel) rfl
theorem wi_129_81 : ri (rt_P sc fm) 129 81 (.if_icmp .ge 189) (84) := ri_of (by decide +kernel) rfl
theorem wi_129_84 : ri (rt_P sc fm) 129 84 (.aload_n 0) (85) := ri_of (by decide +kernel) rfl
theorem wi_129_85 : ri (rt_P sc fm) 129 85 (.getfield 883) (88) := ri_of (by decide +kernel) rfl
theorem wi_129_88 : ri (rt_P sc fm) 129 88 (.ifCond .ge 182) (91) := ri_of (by decide +kernel) rfl
theorem wi_129_9 : ri (rt_P sc fm) 129 9 (.ifCond .lt 15) (12) := ri_of (by decide +kernel) rfl
theorem wi_129_91 : ri (rt_P sc fm) 129 91 (.aload_n 0) (92) := ri_of (by decide +kernel) rfl
theorem wi_129_92 : ri (rt_P sc fm) 129 92 (.getfield 880) (95) := ri_of (by decide +kernel) rfl
theorem wi_129_95 : ri (rt_P sc fm) 129 95 (.ifCond .ne 175) (98) := ri_of (by decide +kernel) rfl
theorem wi_129_98 : ri (rt_P sc fm) 129 98 (.bipush 40) (100) := ri_of (by decide +kernel) rfl
theorem wm_462 : rx_ml (rt_P sc fm) 462 = 7 := (by decide +kernel : rt_ml 462 = 7)
theorem wp_129_356 : rx_pt (rt_P sc fm) 129 356 = some (15, 0, .int) := (by decide +kernel : rt_pt 129 356 = some (15, 0, .int))
theorem wp_129_874 : rx_pt (rt_P sc fm) 129 874 = some (15, 102, .int) := (by decide +kernel : rt_pt 129 874 = some (15, 102, .int))
theorem wp_129_877 : rx_pt (rt_P sc fm) 129 877 = some (15, 101, .int) := (by decide +kernel : rt_pt 129 877 = some (15, 101, .int))
theorem wp_129_880 : rx_pt (rt_P sc fm) 129 880 = some (15, 104, .boolean) := (by decide +kernel : rt_pt 129 880 = some (15, 104, .boolean))
theorem wp_129_883 : rx_pt (rt_P sc fm) 129 883 = some (15, 105, .int) := (by decide +kernel : rt_pt 129 883 = some (15, 105, .int))
theorem wr_129 : rx_rt (rt_P sc fm) 129 = (some FieldType.int) := (by decide +kernel : rt_rt 129 = (some FieldType.int))
/-- MarkHouseModel.way(I)I -/
def d_129 (n : Nat) (a1 : Int32) (c : cS) : Option (Int32 × cS) :=
  lt (pI c 174 0 0) (fun c1 =>
  jn (fun p3 : Unit =>
    some ((-1), c1))
  (fun j24 =>
  if (c1.1 174 97) < 0 then
    j24 ()
  else
    if a1 < 0 then
      j24 ()
    else
      if a1 < (c1.1 174 91) then
        if ib a1 15360 then
        lt ((c1.1 241 (ix a1)) : Int32) (fun v6 =>
        lt ((c1.1 174 97) : Int32) (fun v9 =>
        Option.bind (d_450 n v9 c1) (fun r11 =>
        lt (pI r11 174 101 0) (fun c12 =>
        lt (pI c12 174 104 0) (fun c14 =>
        lt (pI c14 174 105 (-1)) (fun c16 =>
        Option.bind (d_452 n v6 v9 c16) (fun r18 =>
        Option.bind (d_461 n v6 0 (-1) a1 r18) (fun r19 =>
        Option.bind (whl (R := (cS)) (fun s21 : Int32 × cS =>
          if (s21.2.1 174 101) ≤ s21.1 then
            some (.inr s21.2)
          else
            if 0 ≤ (s21.2.1 174 105) then
              some (.inr s21.2)
            else
              if (s21.2.1 174 104) = 0 then
                if ib s21.1 400 then
                lt (((40 * v6) + (s21.2.1 246 (ix s21.1))) : Int32) (fun v24 =>
                if ib v24 3840 then
                jn (fun p27 : Int32 =>
                  if ib v24 3840 then
                  jn (fun p30 : Int32 =>
                    jn (fun p32 : cS =>
                      jn (fun p33 : cS =>
                        if ib v24 3840 then
                        jn (fun p35 : cS =>
                          lt (s21.1 + 1 : Int32) (fun v37 =>
                          some (.inl (v37, p35))))
                        (fun j264 =>
                        if (p33.1 216 (ix v24)) < 0 then
                          j264 p33
                        else
                          if p30 = 0 then
                            if 0 ≤ (p33.1 174 105) then
                              j264 p33
                            else
                              if (p33.1 174 104) = 0 then
                                Option.bind (d_462 n v6 s21.1 a1 1 p33) (fun r39 =>
                                j264 r39)
                              else
                                j264 p33
                          else
                            j264 p33)
                        else none)
                      (fun j226 =>
                      if p27 = 0 then
                        j226 p32
                      else
                        if 0 ≤ (p32.1 174 105) then
                          j226 p32
                        else
                          if (p32.1 174 104) = 0 then
                            Option.bind (d_462 n v6 s21.1 a1 0 p32) (fun r40 =>
                            j226 r40)
                          else
                            j226 p32))
                    (fun j198 =>
                    if p30 = 0 then
                      j198 s21.2
                    else
                      Option.bind (d_462 n v6 s21.1 a1 1 s21.2) (fun r41 =>
                      j198 r41)))
                  (fun j182 =>
                  jn (fun p42 : Unit =>
                    j182 0)
                  (fun j181 =>
                  if (s21.2.1 216 (ix v24)) < 0 then
                    j181 ()
                  else
                    jn (fun p43 : Unit =>
                      j182 1)
                    (fun j177 =>
                    if p27 = 0 then
                      j177 ()
                    else
                      if ib v24 3840 then
                      if ib s21.1 400 then
                      if ((s21.2.1 246 (ix s21.1)) + 1) ≤ (s21.2.1 216 (ix v24)) then
                        j181 ()
                      else
                        j177 ()
                      else none
                      else none)))
                  else none)
                (fun j141 =>
                jn (fun p46 : Unit =>
                  j141 0)
                (fun j140 =>
                if (s21.2.1 211 (ix v24)) = 21 then
                  j140 ()
                else
                  if ib v24 3840 then
                  if (s21.2.1 211 (ix v24)) = 27 then
                    j140 ()
                  else
                    j141 1
                  else none))
                else none)
                else none
              else
                some (.inr s21.2)) n (0, r19))
        (fun x48 : cS =>
          if 0 ≤ (x48.1 174 105) then
            lt ((x48.1 174 105) : Int32) (fun v51 =>
            Option.bind (whl (R := (Int32)) (fun s53 : Int32 × Int32 =>
              if s53.2 < 0 then
                some (.inr s53.1)
              else
                lt (s53.1 + 1 : Int32) (fun v55 =>
                if ib s53.2 400 then
                lt ((x48.1 247 (ix s53.2)) : Int32) (fun v59 =>
                some (.inl (v55, v59)))
                else none)) n (0, v51))
            (fun x61 : Int32 =>
              lt (pI x48 174 102 x61) (fun c62 =>
              lt ((c62.1 174 105) : Int32) (fun v65 =>
              Option.bind (whl (R := (cS)) (fun s67 : Int32 × Int32 × cS =>
                if s67.2.1 < 0 then
                  some (.inr s67.2.2)
                else
                  lt (s67.1 + (-1) : Int32) (fun v69 =>
                  if ib s67.2.1 400 then
                  if ib v69 400 then
                  lt (pI s67.2.2 249 (ix v69) (s67.2.2.1 246 (ix s67.2.1))) (fun c73 =>
                  if ib s67.2.1 400 then
                  lt ((c73.1 247 (ix s67.2.1)) : Int32) (fun v77 =>
                  some (.inl (v69, v77, c73)))
                  else none)
                  else none
                  else none)) n (x61, v65, c62))
              (fun x79 : cS =>
                some ((x79.1 174 102), x79))))))
          else
            jn (fun p80 : Int32 =>
              some (p80, x48))
            (fun j290 =>
            if (x48.1 174 104) = 0 then
              j290 0
            else
              j290 (-2)))))))))))
        else none
      else
        j24 ()))
theorem sp_129 {F Lo n : Nat} {a1 : Int32} {c y : cS} {w : cW} {K : Int32 × cS → Prop} {Q : ((Option Value) ⊕ String) → List va_E → Prop} (hw : rOK fm w) (hF : 6 ≤ F) (hLo : 149 ≤ Lo)  (h : wp (d_129 n a1 c) K) (hQ : ∀ r, K r → Q (.inl (some (.int r.1))) (hq false r.2 y w)) : rs (rt_P sc fm) 129 F Lo 0 [(0, .ref 174), (1, .int a1)] [] (hq false c y w) Q := by
  unfold d_129 at h
  obtain ⟨lv, elv⟩ : ∃ lv : rx_L, lv = [(0, .ref 174), (1, .int a1)] := ⟨_, rfl⟩
  rw [← elv]
  have l0 : rx_ld lv 0 = some (.ref 174) := by rw [elv]; rfl
  have l1 : rx_ld lv 1 = some (.int a1) := by rw [elv]; rfl
  refine rs_aldn wi_129_0 l0 ?_
  refine rs_pure wi_129_1 rfl ?_
  refine rs_topi (v := 0) (by decide) ?_
  obtain ⟨c1, e2, h⟩ := wp_lt h
  refine dq_pi wi_129_2 wp_129_356 tf_174_0 rfl rfl e2 ?_
  refine rs_aldn wi_129_5 l0 ?_
  refine dq_gi wi_129_6 wf_129_292 tf_174_97 ?_
  refine wp_jn (B := fun p3 : Unit => ∀ lv, rs (rt_P sc fm) 129 F Lo 24 lv [] (hq false c1 y w) Q) h (fun p3 h lv => ?_) (fun j24 hj24 h => ?_)
  ·
    refine rs_pure wi_129_24 rfl ?_
    refine rs_topi (v := (-1)) (by decide) ?_
    exact rs_iret wi_129_25 wr_129 rfl (hQ ((-1), c1) h)
  refine rs_iflt (tg := 24) wi_129_9 ⟨by decide, by decide⟩ (fun q => ?_) (fun q => ?_)
  ·
    have h := wp_pos h q
    exact hj24 _ h _
  ·
    have h := wp_neg h q
    refine rs_ildn wi_129_12 l1 ?_
    refine rs_iflt (tg := 24) wi_129_13 ⟨by decide, by decide⟩ (fun q => ?_) (fun q => ?_)
    ·
      have h := wp_pos h q
      exact hj24 _ h _
    ·
      have h := wp_neg h q
      refine rs_ildn wi_129_16 l1 ?_
      refine rs_aldn wi_129_17 l0 ?_
      refine dq_gi wi_129_18 wf_129_859 tf_174_91 ?_
      refine rs_iclt (tg := 26) wi_129_21 ⟨by decide, by decide⟩ (fun q => ?_) (fun q => ?_)
      ·
        have h := wp_pos h q
        refine rs_aldn wi_129_26 l0 ?_
        refine dq_gr wi_129_27 wf_129_277 tf_174_92 ?_
        refine rs_ildn wi_129_30 l1 ?_
        obtain ⟨g4, h⟩ := wp_gd h
        refine dq_iald wi_129_31 t_241 g4 ?_
        obtain ⟨v6, e7, h⟩ := wp_lt h
        refine rs_topi e7 ?_
        refine dl_istn wi_129_32 rfl (fun lv l2 t5 => ?_)
        have l0 := t5 _ _ (by decide) (Or.inl rfl) l0
        have l1 := t5 _ _ (by decide) (Or.inl rfl) l1
        refine rs_aldn wi_129_33 l0 ?_
        refine dq_gi wi_129_34 wf_129_292 tf_174_97 ?_
        obtain ⟨v9, e10, h⟩ := wp_lt h
        refine rs_topi e10 ?_
        refine dl_istn wi_129_37 rfl (fun lv l3 t8 => ?_)
        have l0 := t8 _ _ (by decide) (Or.inl rfl) l0
        have l1 := t8 _ _ (by decide) (Or.inl rfl) l1
        have l2 := t8 _ _ (by decide) (Or.inl rfl) l2
        refine rs_aldn wi_129_38 l0 ?_
        refine rs_ildn wi_129_39 l3 ?_
        refine rs_V wi_129_40 wc_129_856 rfl (dq_isa tf_174_0 wa_15_450) (Nat.le_trans (by decide) hF) (ml_le wm_450 (Nat.le_trans (by decide) hLo)) rfl (sp_450 hw (Nat.le_trans (by decide : 5 ≤ 6 - 1) (Nat.sub_le_sub_right hF 1)) (ml_sub wm_450 (Nat.le_trans (by decide : 127 ≤ 149 - 22) (Nat.sub_le_sub_right hLo 22))) (wp_bind h) (fun r11 h => rs_back0 ?_))
        refine rs_aldn wi_129_43 l0 ?_
        refine rs_pure wi_129_44 rfl ?_
        refine rs_topi (v := 0) (by decide) ?_
        obtain ⟨c12, e13, h⟩ := wp_lt h
        refine dq_pi wi_129_45 wp_129_877 tf_174_101 rfl rfl e13 ?_
        refine rs_aldn wi_129_48 l0 ?_
        refine rs_pure wi_129_49 rfl ?_
        refine rs_topi (v := 0) (by decide) ?_
        obtain ⟨c14, e15, h⟩ := wp_lt h
        refine dq_pi wi_129_50 wp_129_880 tf_174_104 (nb_n (by decide)) (nb_f (by decide)) e15 ?_
        refine rs_aldn wi_129_53 l0 ?_
        refine rs_pure wi_129_54 rfl ?_
        refine rs_topi (v := (-1)) (by decide) ?_
        obtain ⟨c16, e17, h⟩ := wp_lt h
        refine dq_pi wi_129_55 wp_129_883 tf_174_105 rfl rfl e17 ?_
        refine rs_aldn wi_129_58 l0 ?_
        refine rs_ildn wi_129_59 l2 ?_
        refine rs_ildn wi_129_60 l3 ?_
        refine rs_V wi_129_61 wc_129_844 rfl (dq_isa tf_174_0 wa_15_452) (Nat.le_trans (by decide) hF) (ml_le wm_452 (Nat.le_trans (by decide) hLo)) rfl (sp_452 hw (Nat.le_trans (by decide : 1 ≤ 6 - 1) (Nat.sub_le_sub_right hF 1)) (ml_sub wm_452 (Nat.le_trans (by decide : 20 ≤ 149 - 23) (Nat.sub_le_sub_right hLo 23))) (wp_bind h) (fun r18 h => rs_back0 ?_))
        refine rs_aldn wi_129_64 l0 ?_
        refine rs_ildn wi_129_65 l2 ?_
        refine rs_pure wi_129_66 rfl ?_
        refine rs_topi (v := 0) (by decide) ?_
        refine rs_pure wi_129_67 rfl ?_
        refine rs_topi (v := (-1)) (by decide) ?_
        refine rs_ildn wi_129_68 l1 ?_
        refine rs_V wi_129_69 wc_129_886 rfl (dq_isa tf_174_0 wa_15_461) (Nat.le_trans (by decide) hF) (ml_le wm_461 (Nat.le_trans (by decide) hLo)) rfl (sp_461 hw (Nat.le_trans (by decide : 2 ≤ 6 - 1) (Nat.sub_le_sub_right hF 1)) (ml_sub wm_461 (Nat.le_trans (by decide : 46 ≤ 149 - 29) (Nat.sub_le_sub_right hLo 29))) (wp_bind h) (fun r19 h => rs_back0 ?_))
        refine rs_pure wi_129_72 rfl ?_
        refine rs_topi (v := 0) (by decide) ?_
        refine dl_ist wi_129_73 rfl (fun lv l4 t20 => ?_)
        have l0 := t20 _ _ (by decide) (Or.inl rfl) l0
        have l1 := t20 _ _ (by decide) (Or.inl rfl) l1
        have l2 := t20 _ _ (by decide) (Or.inl rfl) l2
        refine whl_ex (A := fun s21 : Int32 × cS => ∀ lv, rx_ld lv 0 = some (.ref 174) → rx_ld lv 1 = some (.int a1) → rx_ld lv 2 = some (.int v6) → rx_ld lv 4 = some (.int s21.1) → rs (rt_P sc fm) 129 F Lo 75 lv [] (hq false s21.2 y w) Q) (B := (fun x48 : cS => ∀ lv, rx_ld lv 0 = some (.ref 174) → rs (rt_P sc fm) 129 F Lo 270 lv [] (hq false x48 y w) Q)) ?_ ?_ _ _ (wp_bind h) _ l0 l1 l2 l4
        · intro s21 h lv l0 l1 l2 l4
          refine rs_ild wi_129_75 l4 ?_
          refine rs_aldn wi_129_77 l0 ?_
          refine dq_gi wi_129_78 wf_129_877 tf_174_101 ?_
          refine rs_icge (tg := 270) wi_129_81 ⟨by decide, by decide⟩ (fun q => ?_) (fun q => ?_)
          ·
            have h := wp_pos h q
            exact h _ l0
          ·
            have h := wp_neg h q
            refine rs_aldn wi_129_84 l0 ?_
            refine dq_gi wi_129_85 wf_129_883 tf_174_105 ?_
            refine rs_ifge (tg := 270) wi_129_88 ⟨by decide, by decide⟩ (fun q => ?_) (fun q => ?_)
            ·
              have h := wp_pos h q
              exact h _ l0
            ·
              have h := wp_neg h q
              refine rs_aldn wi_129_91 l0 ?_
              refine dq_gi wi_129_92 wf_129_880 tf_174_104 ?_
              refine rs_ifne (tg := 270) wi_129_95 ⟨by decide, by decide⟩ (fun q => ?_) (fun q => ?_)
              ·
                have h := wp_neg h q
                exact h _ l0
              ·
                have h := wp_pos h q
                refine rs_pure wi_129_98 rfl ?_
                refine rs_topi (v := 40) (by decide) ?_
                refine rs_ildn wi_129_100 l2 ?_
                refine rs_pure wi_129_101 rfl ?_
                refine rs_aldn wi_129_102 l0 ?_
                refine dq_gr wi_129_103 wf_129_296 tf_174_98 ?_
                refine rs_ild wi_129_106 l4 ?_
                obtain ⟨g22, h⟩ := wp_gd h
                refine dq_iald wi_129_108 t_246 g22 ?_
                refine rs_pure wi_129_109 rfl ?_
                obtain ⟨v24, e25, h⟩ := wp_lt h
                refine rs_topi e25 ?_
                refine dl_ist wi_129_110 rfl (fun lv l5 t23 => ?_)
                have l0 := t23 _ _ (by decide) (Or.inl rfl) l0
                have l1 := t23 _ _ (by decide) (Or.inl rfl) l1
                have l2 := t23 _ _ (by decide) (Or.inl rfl) l2
                have l4 := t23 _ _ (by decide) (Or.inl rfl) l4
                refine rs_aldn wi_129_112 l0 ?_
                refine dq_gr wi_129_113 wf_129_185 tf_174_49 ?_
                refine rs_ild wi_129_116 l5 ?_
                obtain ⟨g26, h⟩ := wp_gd h
                refine dq_iald wi_129_118 t_211 g26 ?_
                refine rs_pure wi_129_119 rfl ?_
                refine rs_topi (v := 21) (by decide) ?_
                refine wp_jn (B := fun p27 : Int32 => ∀ lv, rx_ld lv 0 = some (.ref 174) → rx_ld lv 1 = some (.int a1) → rx_ld lv 2 = some (.int v6) → rx_ld lv 4 = some (.int s21.1) → rx_ld lv 5 = some (.int v24) → rs (rt_P sc fm) 129 F Lo 141 lv [.int p27] (hq false s21.2 y w) Q) h (fun p27 h lv l0 l1 l2 l4 l5 => ?_) (fun j141 hj141 h => ?_)
                ·
                  refine dl_ist wi_129_141 rfl (fun lv l6 t28 => ?_)
                  have l0 := t28 _ _ (by decide) (Or.inl rfl) l0
                  have l1 := t28 _ _ (by decide) (Or.inl rfl) l1
                  have l2 := t28 _ _ (by decide) (Or.inl rfl) l2
                  have l4 := t28 _ _ (by decide) (Or.inl rfl) l4
                  have l5 := t28 _ _ (by decide) (Or.inl rfl) l5
                  refine rs_aldn wi_129_143 l0 ?_
                  refine dq_gr wi_129_144 wf_129_200 tf_174_54 ?_
                  refine rs_ild wi_129_147 l5 ?_
                  obtain ⟨g29, h⟩ := wp_gd h
                  refine dq_iald wi_129_149 t_216 g29 ?_
                  refine wp_jn (B := fun p30 : Int32 => ∀ lv, rx_ld lv 0 = some (.ref 174) → rx_ld lv 1 = some (.int a1) → rx_ld lv 2 = some (.int v6) → rx_ld lv 4 = some (.int s21.1) → rx_ld lv 5 = some (.int v24) → rx_ld lv 6 = some (.int p27) → rs (rt_P sc fm) 129 F Lo 182 lv [.int p30] (hq false s21.2 y w) Q) h (fun p30 h lv l0 l1 l2 l4 l5 l6 => ?_) (fun j182 hj182 h => ?_)
                  ·
                    refine dl_ist wi_129_182 rfl (fun lv l7 t31 => ?_)
                    have l0 := t31 _ _ (by decide) (Or.inl rfl) l0
                    have l1 := t31 _ _ (by decide) (Or.inl rfl) l1
                    have l2 := t31 _ _ (by decide) (Or.inl rfl) l2
                    have l4 := t31 _ _ (by decide) (Or.inl rfl) l4
                    have l5 := t31 _ _ (by decide) (Or.inl rfl) l5
                    have l6 := t31 _ _ (by decide) (Or.inl rfl) l6
                    refine rs_ild wi_129_184 l7 ?_
                    refine wp_jn (B := fun p32 : cS => ∀ lv, rx_ld lv 0 = some (.ref 174) → rx_ld lv 1 = some (.int a1) → rx_ld lv 2 = some (.int v6) → rx_ld lv 4 = some (.int s21.1) → rx_ld lv 5 = some (.int v24) → rx_ld lv 6 = some (.int p27) → rx_ld lv 7 = some (.int p30) → rs (rt_P sc fm) 129 F Lo 198 lv [] (hq false p32 y w) Q) h (fun p32 h lv l0 l1 l2 l4 l5 l6 l7 => ?_) (fun j198 hj198 h => ?_)
                    ·
                      refine rs_ild wi_129_198 l6 ?_
                      refine wp_jn (B := fun p33 : cS => ∀ lv, rx_ld lv 0 = some (.ref 174) → rx_ld lv 1 = some (.int a1) → rx_ld lv 2 = some (.int v6) → rx_ld lv 4 = some (.int s21.1) → rx_ld lv 5 = some (.int v24) → rx_ld lv 7 = some (.int p30) → rs (rt_P sc fm) 129 F Lo 226 lv [] (hq false p33 y w) Q) h (fun p33 h lv l0 l1 l2 l4 l5 l7 => ?_) (fun j226 hj226 h => ?_)
                      ·
                        refine rs_aldn wi_129_226 l0 ?_
                        refine dq_gr wi_129_227 wf_129_200 tf_174_54 ?_
                        refine rs_ild wi_129_230 l5 ?_
                        obtain ⟨g34, h⟩ := wp_gd h
                        refine dq_iald wi_129_232 t_216 g34 ?_
                        refine wp_jn (B := fun p35 : cS => ∀ lv, rx_ld lv 0 = some (.ref 174) → rx_ld lv 1 = some (.int a1) → rx_ld lv 2 = some (.int v6) → rx_ld lv 4 = some (.int s21.1) → rs (rt_P sc fm) 129 F Lo 264 lv [] (hq false p35 y w) Q) h (fun p35 h lv l0 l1 l2 l4 => ?_) (fun j264 hj264 h => ?_)
                        ·
                          obtain ⟨v37, e38, h⟩ := wp_lt h
                          refine dl_inc wi_129_264 l4 rfl e38 (fun lv l4 t36 => ?_)
                          have l0 := t36 _ _ (by decide) (Or.inl rfl) l0
                          have l1 := t36 _ _ (by decide) (Or.inl rfl) l1
                          have l2 := t36 _ _ (by decide) (Or.inl rfl) l2
                          refine rs_goto (tg := 75) wi_129_267 ⟨by decide, by decide⟩ ?_
                          exact h _ l0 l1 l2 l4
                        refine rs_iflt (tg := 264) wi_129_233 ⟨by decide, by decide⟩ (fun q => ?_) (fun q => ?_)
                        ·
                          have h := wp_pos h q
                          exact hj264 _ h _ l0 l1 l2 l4
                        ·
                          have h := wp_neg h q
                          refine rs_ild wi_129_236 l7 ?_
                          refine rs_ifne (tg := 264) wi_129_238 ⟨by decide, by decide⟩ (fun q => ?_) (fun q => ?_)
                          ·
                            have h := wp_neg h q
                            exact hj264 _ h _ l0 l1 l2 l4
                          ·
                            have h := wp_pos h q
                            refine rs_aldn wi_129_241 l0 ?_
                            refine dq_gi wi_129_242 wf_129_883 tf_174_105 ?_
                            refine rs_ifge (tg := 264) wi_129_245 ⟨by decide, by decide⟩ (fun q => ?_) (fun q => ?_)
                            ·
                              have h := wp_pos h q
                              exact hj264 _ h _ l0 l1 l2 l4
                            ·
                              have h := wp_neg h q
                              refine rs_aldn wi_129_248 l0 ?_
                              refine dq_gi wi_129_249 wf_129_880 tf_174_104 ?_
                              refine rs_ifne (tg := 264) wi_129_252 ⟨by decide, by decide⟩ (fun q => ?_) (fun q => ?_)
                              ·
                                have h := wp_neg h q
                                exact hj264 _ h _ l0 l1 l2 l4
                              ·
                                have h := wp_pos h q
                                refine rs_aldn wi_129_255 l0 ?_
                                refine rs_ildn wi_129_256 l2 ?_
                                refine rs_ild wi_129_257 l4 ?_
                                refine rs_ildn wi_129_259 l1 ?_
                                refine rs_pure wi_129_260 rfl ?_
                                refine rs_topi (v := 1) (by decide) ?_
                                refine rs_V wi_129_261 wc_129_890 rfl (dq_isa tf_174_0 wa_15_462) (Nat.le_trans (by decide) hF) (ml_le wm_462 (Nat.le_trans (by decide) hLo)) rfl (sp_462 hw (Nat.le_trans (by decide : 3 ≤ 6 - 1) (Nat.sub_le_sub_right hF 1)) (ml_sub wm_462 (Nat.le_trans (by decide : 75 ≤ 149 - 26) (Nat.sub_le_sub_right hLo 26))) (wp_bind h) (fun r39 h => rs_back0 ?_))
                                exact hj264 _ h _ l0 l1 l2 l4
                      refine rs_ifeq (tg := 226) wi_129_200 ⟨by decide, by decide⟩ (fun q => ?_) (fun q => ?_)
                      ·
                        have h := wp_pos h q
                        exact hj226 _ h _ l0 l1 l2 l4 l5 l7
                      ·
                        have h := wp_neg h q
                        refine rs_aldn wi_129_203 l0 ?_
                        refine dq_gi wi_129_204 wf_129_883 tf_174_105 ?_
                        refine rs_ifge (tg := 226) wi_129_207 ⟨by decide, by decide⟩ (fun q => ?_) (fun q => ?_)
                        ·
                          have h := wp_pos h q
                          exact hj226 _ h _ l0 l1 l2 l4 l5 l7
                        ·
                          have h := wp_neg h q
                          refine rs_aldn wi_129_210 l0 ?_
                          refine dq_gi wi_129_211 wf_129_880 tf_174_104 ?_
                          refine rs_ifne (tg := 226) wi_129_214 ⟨by decide, by decide⟩ (fun q => ?_) (fun q => ?_)
                          ·
                            have h := wp_neg h q
                            exact hj226 _ h _ l0 l1 l2 l4 l5 l7
                          ·
                            have h := wp_pos h q
                            refine rs_aldn wi_129_217 l0 ?_
                            refine rs_ildn wi_129_218 l2 ?_
                            refine rs_ild wi_129_219 l4 ?_
                            refine rs_ildn wi_129_221 l1 ?_
                            refine rs_pure wi_129_222 rfl ?_
                            refine rs_topi (v := 0) (by decide) ?_
                            refine rs_V wi_129_223 wc_129_890 rfl (dq_isa tf_174_0 wa_15_462) (Nat.le_trans (by decide) hF) (ml_le wm_462 (Nat.le_trans (by decide) hLo)) rfl (sp_462 hw (Nat.le_trans (by decide : 3 ≤ 6 - 1) (Nat.sub_le_sub_right hF 1)) (ml_sub wm_462 (Nat.le_trans (by decide : 75 ≤ 149 - 26) (Nat.sub_le_sub_right hLo 26))) (wp_bind h) (fun r40 h => rs_back0 ?_))
                            exact hj226 _ h _ l0 l1 l2 l4 l5 l7
                    refine rs_ifeq (tg := 198) wi_129_186 ⟨by decide, by decide⟩ (fun q => ?_) (fun q => ?_)
                    ·
                      have h := wp_pos h q
                      exact hj198 _ h _ l0 l1 l2 l4 l5 l6 l7
                    ·
                      have h := wp_neg h q
                      refine rs_aldn wi_129_189 l0 ?_
                      refine rs_ildn wi_129_190 l2 ?_
                      refine rs_ild wi_129_191 l4 ?_
                      refine rs_ildn wi_129_193 l1 ?_
                      refine rs_pure wi_129_194 rfl ?_
                      refine rs_topi (v := 1) (by decide) ?_
                      refine rs_V wi_129_195 wc_129_890 rfl (dq_isa tf_174_0 wa_15_462) (Nat.le_trans (by decide) hF) (ml_le wm_462 (Nat.le_trans (by decide) hLo)) rfl (sp_462 hw (Nat.le_trans (by decide : 3 ≤ 6 - 1) (Nat.sub_le_sub_right hF 1)) (ml_sub wm_462 (Nat.le_trans (by decide : 75 ≤ 149 - 26) (Nat.sub_le_sub_right hLo 26))) (wp_bind h) (fun r41 h => rs_back0 ?_))
                      exact hj198 _ h _ l0 l1 l2 l4 l5 l6 l7
                  refine wp_jn (B := fun p42 : Unit => ∀ lv, rx_ld lv 0 = some (.ref 174) → rx_ld lv 1 = some (.int a1) → rx_ld lv 2 = some (.int v6) → rx_ld lv 4 = some (.int s21.1) → rx_ld lv 5 = some (.int v24) → rx_ld lv 6 = some (.int p27) → rs (rt_P sc fm) 129 F Lo 181 lv [] (hq false s21.2 y w) Q) h (fun p42 h lv l0 l1 l2 l4 l5 l6 => ?_) (fun j181 hj181 h => ?_)
                  ·
                    refine rs_pure wi_129_181 rfl ?_
                    refine rs_topi (v := 0) (by decide) ?_
                    exact hj182 _ h _ l0 l1 l2 l4 l5 l6
                  refine rs_iflt (tg := 181) wi_129_150 ⟨by decide, by decide⟩ (fun q => ?_) (fun q => ?_)
                  ·
                    have h := wp_pos h q
                    exact hj181 _ h _ l0 l1 l2 l4 l5 l6
                  ·
                    have h := wp_neg h q
                    refine rs_ild wi_129_153 l6 ?_
                    refine wp_jn (B := fun p43 : Unit => ∀ lv, rx_ld lv 0 = some (.ref 174) → rx_ld lv 1 = some (.int a1) → rx_ld lv 2 = some (.int v6) → rx_ld lv 4 = some (.int s21.1) → rx_ld lv 5 = some (.int v24) → rx_ld lv 6 = some (.int p27) → rs (rt_P sc fm) 129 F Lo 177 lv [] (hq false s21.2 y w) Q) h (fun p43 h lv l0 l1 l2 l4 l5 l6 => ?_) (fun j177 hj177 h => ?_)
                    ·
                      refine rs_pure wi_129_177 rfl ?_
                      refine rs_topi (v := 1) (by decide) ?_
                      refine rs_goto (tg := 182) wi_129_178 ⟨by decide, by decide⟩ ?_
                      exact hj182 _ h _ l0 l1 l2 l4 l5 l6
                    refine rs_ifeq (tg := 177) wi_129_155 ⟨by decide, by decide⟩ (fun q => ?_) (fun q => ?_)
                    ·
                      have h := wp_pos h q
                      exact hj177 _ h _ l0 l1 l2 l4 l5 l6
                    ·
                      have h := wp_neg h q
                      refine rs_aldn wi_129_158 l0 ?_
                      refine dq_gr wi_129_159 wf_129_200 tf_174_54 ?_
                      refine rs_ild wi_129_162 l5 ?_
                      obtain ⟨g44, h⟩ := wp_gd h
                      refine dq_iald wi_129_164 t_216 g44 ?_
                      refine rs_aldn wi_129_165 l0 ?_
                      refine dq_gr wi_129_166 wf_129_296 tf_174_98 ?_
                      refine rs_ild wi_129_169 l4 ?_
                      obtain ⟨g45, h⟩ := wp_gd h
                      refine dq_iald wi_129_171 t_246 g45 ?_
                      refine rs_pure wi_129_172 rfl ?_
                      refine rs_topi (v := 1) (by decide) ?_
                      refine rs_pure wi_129_173 rfl ?_
                      refine rs_icge (tg := 181) wi_129_174 ⟨by decide, by decide⟩ (fun q => ?_) (fun q => ?_)
                      ·
                        have h := wp_pos h q
                        exact hj181 _ h _ l0 l1 l2 l4 l5 l6
                      ·
                        have h := wp_neg h q
                        exact hj177 _ h _ l0 l1 l2 l4 l5 l6
                refine wp_jn (B := fun p46 : Unit => ∀ lv, rx_ld lv 0 = some (.ref 174) → rx_ld lv 1 = some (.int a1) → rx_ld lv 2 = some (.int v6) → rx_ld lv 4 = some (.int s21.1) → rx_ld lv 5 = some (.int v24) → rs (rt_P sc fm) 129 F Lo 140 lv [] (hq false s21.2 y w) Q) h (fun p46 h lv l0 l1 l2 l4 l5 => ?_) (fun j140 hj140 h => ?_)
                ·
                  refine rs_pure wi_129_140 rfl ?_
                  refine rs_topi (v := 0) (by decide) ?_
                  exact hj141 _ h _ l0 l1 l2 l4 l5
                refine rs_iceq (tg := 140) wi_129_121 ⟨by decide, by decide⟩ (fun q => ?_) (fun q => ?_)
                ·
                  have h := wp_pos h q
                  exact hj140 _ h _ l0 l1 l2 l4 l5
                ·
                  have h := wp_neg h q
                  refine rs_aldn wi_129_124 l0 ?_
                  refine dq_gr wi_129_125 wf_129_185 tf_174_49 ?_
                  refine rs_ild wi_129_128 l5 ?_
                  obtain ⟨g47, h⟩ := wp_gd h
                  refine dq_iald wi_129_130 t_211 g47 ?_
                  refine rs_pure wi_129_131 rfl ?_
                  refine rs_topi (v := 27) (by decide) ?_
                  refine rs_iceq (tg := 140) wi_129_133 ⟨by decide, by decide⟩ (fun q => ?_) (fun q => ?_)
                  ·
                    have h := wp_pos h q
                    exact hj140 _ h _ l0 l1 l2 l4 l5
                  ·
                    have h := wp_neg h q
                    refine rs_pure wi_129_136 rfl ?_
                    refine rs_topi (v := 1) (by decide) ?_
                    refine rs_goto (tg := 141) wi_129_137 ⟨by decide, by decide⟩ ?_
                    exact hj141 _ h _ l0 l1 l2 l4 l5
        ·
          intro x48 h lv l0
          refine rs_aldn wi_129_270 l0 ?_
          refine dq_gi wi_129_271 wf_129_883 tf_174_105 ?_
          refine rs_ifge (tg := 291) wi_129_274 ⟨by decide, by decide⟩ (fun q => ?_) (fun q => ?_)
          ·
            have h := wp_pos h q
            refine rs_pure wi_129_291 rfl ?_
            refine rs_topi (v := 0) (by decide) ?_
            refine dl_ist wi_129_292 rfl (fun lv l4 t49 => ?_)
            have l0 := t49 _ _ (by decide) (Or.inl rfl) l0
            refine rs_aldn wi_129_294 l0 ?_
            refine dq_gi wi_129_295 wf_129_883 tf_174_105 ?_
            obtain ⟨v51, e52, h⟩ := wp_lt h
            refine rs_topi e52 ?_
            refine dl_ist wi_129_298 rfl (fun lv l5 t50 => ?_)
            have l0 := t50 _ _ (by decide) (Or.inl rfl) l0
            have l4 := t50 _ _ (by decide) (Or.inl rfl) l4
            refine whl_ex (A := fun s53 : Int32 × Int32 => ∀ lv, rx_ld lv 0 = some (.ref 174) → rx_ld lv 4 = some (.int s53.1) → rx_ld lv 5 = some (.int s53.2) → rs (rt_P sc fm) 129 F Lo 300 lv [] (hq false x48 y w) Q) (B := (fun x61 : Int32 => ∀ lv, rx_ld lv 0 = some (.ref 174) → rx_ld lv 4 = some (.int x61) → rs (rt_P sc fm) 129 F Lo 320 lv [] (hq false x48 y w) Q)) ?_ ?_ _ _ (wp_bind h) _ l0 l4 l5
            · intro s53 h lv l0 l4 l5
              refine rs_ild wi_129_300 l5 ?_
              refine rs_iflt (tg := 320) wi_129_302 ⟨by decide, by decide⟩ (fun q => ?_) (fun q => ?_)
              ·
                have h := wp_pos h q
                exact h _ l0 l4
              ·
                have h := wp_neg h q
                obtain ⟨v55, e56, h⟩ := wp_lt h
                refine dl_inc wi_129_305 l4 rfl e56 (fun lv l4 t54 => ?_)
                have l0 := t54 _ _ (by decide) (Or.inl rfl) l0
                have l5 := t54 _ _ (by decide) (Or.inl rfl) l5
                refine rs_aldn wi_129_308 l0 ?_
                refine dq_gr wi_129_309 wf_129_299 tf_174_99 ?_
                refine rs_ild wi_129_312 l5 ?_
                obtain ⟨g57, h⟩ := wp_gd h
                refine dq_iald wi_129_314 t_247 g57 ?_
                obtain ⟨v59, e60, h⟩ := wp_lt h
                refine rs_topi e60 ?_
                refine dl_ist wi_129_315 rfl (fun lv l5 t58 => ?_)
                have l0 := t58 _ _ (by decide) (Or.inl rfl) l0
                have l4 := t58 _ _ (by decide) (Or.inl rfl) l4
                refine rs_goto (tg := 300) wi_129_317 ⟨by decide, by decide⟩ ?_
                exact h _ l0 l4 l5
            ·
              intro x61 h lv l0 l4
              refine rs_aldn wi_129_320 l0 ?_
              refine rs_ild wi_129_321 l4 ?_
              obtain ⟨c62, e63, h⟩ := wp_lt h
              refine dq_pi wi_129_323 wp_129_874 tf_174_102 rfl rfl e63 ?_
              refine rs_aldn wi_129_326 l0 ?_
              refine dq_gi wi_129_327 wf_129_883 tf_174_105 ?_
              obtain ⟨v65, e66, h⟩ := wp_lt h
              refine rs_topi e66 ?_
              refine dl_ist wi_129_330 rfl (fun lv l5 t64 => ?_)
              have l0 := t64 _ _ (by decide) (Or.inl rfl) l0
              have l4 := t64 _ _ (by decide) (Or.inl rfl) l4
              refine whl_ex (A := fun s67 : Int32 × Int32 × cS => ∀ lv, rx_ld lv 0 = some (.ref 174) → rx_ld lv 4 = some (.int s67.1) → rx_ld lv 5 = some (.int s67.2.1) → rs (rt_P sc fm) 129 F Lo 332 lv [] (hq false s67.2.2 y w) Q) (B := (fun x79 : cS => ∀ lv, rx_ld lv 0 = some (.ref 174) → rs (rt_P sc fm) 129 F Lo 366 lv [] (hq false x79 y w) Q)) ?_ ?_ _ _ (wp_bind h) _ l0 l4 l5
              · intro s67 h lv l0 l4 l5
                refine rs_ild wi_129_332 l5 ?_
                refine rs_iflt (tg := 366) wi_129_334 ⟨by decide, by decide⟩ (fun q => ?_) (fun q => ?_)
                ·
                  have h := wp_pos h q
                  exact h _ l0
                ·
                  have h := wp_neg h q
                  obtain ⟨v69, e70, h⟩ := wp_lt h
                  refine dl_inc wi_129_337 l4 rfl e70 (fun lv l4 t68 => ?_)
                  have l0 := t68 _ _ (by decide) (Or.inl rfl) l0
                  have l5 := t68 _ _ (by decide) (Or.inl rfl) l5
                  refine rs_aldn wi_129_340 l0 ?_
                  refine dq_gr wi_129_341 wf_129_305 tf_174_103 ?_
                  refine rs_ild wi_129_344 l4 ?_
                  refine rs_aldn wi_129_346 l0 ?_
                  refine dq_gr wi_129_347 wf_129_296 tf_174_98 ?_
                  refine rs_ild wi_129_350 l5 ?_
                  obtain ⟨g71, h⟩ := wp_gd h
                  refine dq_iald wi_129_352 t_246 g71 ?_
                  obtain ⟨g72, h⟩ := wp_gd h
                  obtain ⟨c73, e74, h⟩ := wp_lt h
                  refine dq_iast wi_129_353 t_249 g72 e74 ?_
                  refine rs_aldn wi_129_354 l0 ?_
                  refine dq_gr wi_129_355 wf_129_299 tf_174_99 ?_
                  refine rs_ild wi_129_358 l5 ?_
                  obtain ⟨g75, h⟩ := wp_gd h
                  refine dq_iald wi_129_360 t_247 g75 ?_
                  obtain ⟨v77, e78, h⟩ := wp_lt h
                  refine rs_topi e78 ?_
                  refine dl_ist wi_129_361 rfl (fun lv l5 t76 => ?_)
                  have l0 := t76 _ _ (by decide) (Or.inl rfl) l0
                  have l4 := t76 _ _ (by decide) (Or.inl rfl) l4
                  refine rs_goto (tg := 332) wi_129_363 ⟨by decide, by decide⟩ ?_
                  exact h _ l0 l4 l5
              ·
                intro x79 h lv l0
                refine rs_aldn wi_129_366 l0 ?_
                refine dq_gi wi_129_367 wf_129_874 tf_174_102 ?_
                exact rs_iret wi_129_370 wr_129 rfl (hQ ((x79.1 174 102), x79) h)
          ·
            have h := wp_neg h q
            refine rs_aldn wi_129_277 l0 ?_
            refine dq_gi wi_129_278 wf_129_880 tf_174_104 ?_
            refine wp_jn (B := fun p80 : Int32 => ∀ lv, rs (rt_P sc fm) 129 F Lo 290 lv [.int p80] (hq false x48 y w) Q) h (fun p80 h lv => ?_) (fun j290 hj290 h => ?_)
            ·
              exact rs_iret wi_129_290 wr_129 rfl (hQ (p80, x48) h)
            refine rs_ifeq (tg := 289) wi_129_281 ⟨by decide, by decide⟩ (fun q => ?_) (fun q => ?_)
            ·
              have h := wp_pos h q
              refine rs_pure wi_129_289 rfl ?_
              refine rs_topi (v := 0) (by decide) ?_
              exact hj290 _ h _
            ·
              have h := wp_neg h q
              refine rs_pure wi_129_284 rfl ?_
              refine rs_topi (v := (-2)) (by decide) ?_
              refine rs_goto (tg := 290) wi_129_286 ⟨by decide, by decide⟩ ?_
              exact hj290 _ h _
      ·
        have h := wp_neg h q
        exact hj24 _ h _
end D58
