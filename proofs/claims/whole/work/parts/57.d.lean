/-! THE CODE AS PURE PROGRAMS, 16: by wip/whole/dc.py -/
section D57
variable {sc : Nat × (Nat → Int32)} {fm : Value}
theorem wc_366_371 : rx_ct (rt_P sc fm) 366 371 = some (0, 357, 1) := (by decide +kernel : rt_ct 366 371 = some (0, 357, 1))
theorem wc_366_382 : rx_ct (rt_P sc fm) 366 382 = some (0, 361, 0) := (by decide +kernel : rt_ct 366 382 = some (0, 361, 0))
theorem wc_366_393 : rx_ct (rt_P sc fm) 366 393 = some (0, 358, 1) := (by decide +kernel : rt_ct 366 393 = some (0, 358, 1))
theorem wi_366_0 : ri (rt_P sc fm) 366 0 (.aload_n 0) (1) := ri_of (by decide +kernel) rfl
theorem wi_366_1 : ri (rt_P sc fm) 366 1 (.invokevirtual 382) (4) := ri_of (by decide +kernel) rfl
theorem wi_366_10 : ri (rt_P sc fm) 366 10 (.aload_n 0) (11) := ri_of (by decide +kernel) rfl
theorem wi_366_11 : ri (rt_P sc fm) 366 11 (.lload_n 1) (12) := ri_of (by decide +kernel) rfl
theorem wi_366_12 : ri (rt_P sc fm) 366 12 (.invokevirtual 393) (15) := ri_of (by decide +kernel) rfl
theorem wi_366_15 : ri (rt_P sc fm) 366 15 (.aload_n 0) (16) := ri_of (by decide +kernel) rfl
theorem wi_366_16 : ri (rt_P sc fm) 366 16 (.bipush 39) (18) := ri_of (by decide +kernel) rfl
theorem wi_366_18 : ri (rt_P sc fm) 366 18 (.invokevirtual 371) (21) := ri_of (by decide +kernel) rfl
theorem wi_366_21 : ri (rt_P sc fm) 366 21 (.return_) (22) := ri_of (by decide +kernel) rfl
theorem wi_366_4 : ri (rt_P sc fm) 366 4 (.aload_n 0) (5) := ri_of (by decide +kernel) rfl
theorem wi_366_5 : ri (rt_P sc fm) 366 5 (.bipush 39) (7) := ri_of (by decide +kernel) rfl
theorem wi_366_7 : ri (rt_P sc fm) 366 7 (.invokevirtual 371) (10) := ri_of (by decide +kernel) rfl
theorem wr_366 : rx_rt (rt_P sc fm) 366 = none := (by decide +kernel : rt_rt 366 = none)
/-- MarkHouseModel.sayText(J)V -/
def d_366 (n : Nat) (a1 : Int64) (c : cS) : Option (cS) :=
  Option.bind (d_361 n c) (fun r1 =>
  Option.bind (d_357 n 39 r1) (fun r2 =>
  Option.bind (d_358 n a1 r2) (fun r3 =>
  Option.bind (d_357 n 39 r3) (fun r4 =>
  some r4))))
theorem sp_366 {F Lo n : Nat} {a1 : Int64} {c y : cS} {w : cW} {K : cS → Prop} {Q : ((Option Value) ⊕ String) → List va_E → Prop} (hw : rOK fm w) (hF : 2 ≤ F) (hLo : 44 ≤ Lo)  (h : wp (d_366 n a1 c) K) (hQ : ∀ r, K r → Q (.inl none) (hq false r y w)) : rs (rt_P sc fm) 366 F Lo 0 [(0, .ref 174), (1, .long a1)] [] (hq false c y w) Q := by
  unfold d_366 at h
  obtain ⟨lv, elv⟩ : ∃ lv : rx_L, lv = [(0, .ref 174), (1, .long a1)] := ⟨_, rfl⟩
  rw [← elv]
  have l0 : rx_ld lv 0 = some (.ref 174) := by rw [elv]; rfl
  have l1 : rx_ld lv 1 = some (.long a1) := by rw [elv]; rfl
  refine rs_aldn wi_366_0 l0 ?_
  refine rs_V wi_366_1 wc_366_382 rfl (dq_isa tf_174_0 wa_15_361) (Nat.le_trans (by decide) hF) (ml_le wm_361 (Nat.le_trans (by decide) hLo)) rfl (sp_361 hw (Nat.le_trans (by decide : 1 ≤ 2 - 1) (Nat.sub_le_sub_right hF 1)) (ml_sub wm_361 (Nat.le_trans (by decide : 21 ≤ 44 - 20) (Nat.sub_le_sub_right hLo 20))) (wp_bind h) (fun r1 h => rs_back0 ?_))
  refine rs_aldn wi_366_4 l0 ?_
  refine rs_pure wi_366_5 rfl ?_
  refine rs_topi (v := 39) (by decide) ?_
  refine rs_V wi_366_7 wc_366_371 rfl (dq_isa tf_174_0 wa_15_357) (Nat.le_trans (by decide) hF) (ml_le wm_357 (Nat.le_trans (by decide) hLo)) rfl (sp_357 hw (Nat.le_trans (by decide : 0 ≤ 2 - 1) (Nat.sub_le_sub_right hF 1)) (ml_sub wm_357 (Nat.le_trans (by decide : 0 ≤ 44 - 21) (Nat.sub_le_sub_right hLo 21))) (wp_bind h) (fun r2 h => rs_back0 ?_))
  refine rs_aldn wi_366_10 l0 ?_
  refine rs_lldn wi_366_11 l1 ?_
  refine rs_V wi_366_12 wc_366_393 rfl (dq_isa tf_174_0 wa_15_358) (Nat.le_trans (by decide) hF) (ml_le wm_358 (Nat.le_trans (by decide) hLo)) rfl (sp_358 hw (Nat.le_trans (by decide : 1 ≤ 2 - 1) (Nat.sub_le_sub_right hF 1)) (ml_sub wm_358 (Nat.le_trans (by decide : 21 ≤ 44 - 23) (Nat.sub_le_sub_right hLo 23))) (wp_bind h) (fun r3 h => rs_back0 ?_))
  refine rs_aldn wi_366_15 l0 ?_
  refine rs_pure wi_366_16 rfl ?_
  refine rs_topi (v := 39) (by decide) ?_
  refine rs_V wi_366_18 wc_366_371 rfl (dq_isa tf_174_0 wa_15_357) (Nat.le_trans (by decide) hF) (ml_le wm_357 (Nat.le_trans (by decide) hLo)) rfl (sp_357 hw (Nat.le_trans (by decide : 0 ≤ 2 - 1) (Nat.sub_le_sub_right hF 1)) (ml_sub wm_357 (Nat.le_trans (by decide : 0 ≤ 44 - 21) (Nat.sub_le_sub_right hLo 21))) (wp_bind h) (fun r4 h => rs_back0 ?_))
  exact rs_vret wi_366_21 wr_366 (hQ r4 h)
theorem wc_364_382 : rx_ct (rt_P sc fm) 364 382 = some (0, 361, 0) := (by decide +kernel : rt_ct 364 382 = some (0, 361, 0))
theorem wc_364_397 : rx_ct (rt_P sc fm) 364 397 = some (0, 360, 1) := (by decide +kernel : rt_ct 364 397 = some (0, 360, 1))
theorem wi_364_0 : ri (rt_P sc fm) 364 0 (.aload_n 0) (1) := ri_of (by decide +kernel) rfl
theorem wi_364_1 : ri (rt_P sc fm) 364 1 (.invokevirtual 382) (4) := ri_of (by decide +kernel) rfl
theorem wi_364_4 : ri (rt_P sc fm) 364 4 (.aload_n 0) (5) := ri_of (by decide +kernel) rfl
theorem wi_364_5 : ri (rt_P sc fm) 364 5 (.lload_n 1) (6) := ri_of (by decide +kernel) rfl
theorem wi_364_6 : ri (rt_P sc fm) 364 6 (.invokevirtual 397) (9) := ri_of (by decide +kernel) rfl
theorem wi_364_9 : ri (rt_P sc fm) 364 9 (.return_) (10) := ri_of (by decide +kernel) rfl
theorem wr_364 : rx_rt (rt_P sc fm) 364 = none := (by decide +kernel : rt_rt 364 = none)
/-- MarkHouseModel.sayWhole(J)V -/
def d_364 (n : Nat) (a1 : Int64) (c : cS) : Option (cS) :=
  Option.bind (d_361 n c) (fun r1 =>
  Option.bind (d_360 n a1 r1) (fun r2 =>
  some r2))
theorem sp_364 {F Lo n : Nat} {a1 : Int64} {c y : cS} {w : cW} {K : cS → Prop} {Q : ((Option Value) ⊕ String) → List va_E → Prop} (hw : rOK fm w) (hF : 2 ≤ F) (hLo : 45 ≤ Lo)  (h : wp (d_364 n a1 c) K) (hQ : ∀ r, K r → Q (.inl none) (hq false r y w)) : rs (rt_P sc fm) 364 F Lo 0 [(0, .ref 174), (1, .long a1)] [] (hq false c y w) Q := by
  unfold d_364 at h
  obtain ⟨lv, elv⟩ : ∃ lv : rx_L, lv = [(0, .ref 174), (1, .long a1)] := ⟨_, rfl⟩
  rw [← elv]
  have l0 : rx_ld lv 0 = some (.ref 174) := by rw [elv]; rfl
  have l1 : rx_ld lv 1 = some (.long a1) := by rw [elv]; rfl
  refine rs_aldn wi_364_0 l0 ?_
  refine rs_V wi_364_1 wc_364_382 rfl (dq_isa tf_174_0 wa_15_361) (Nat.le_trans (by decide) hF) (ml_le wm_361 (Nat.le_trans (by decide) hLo)) rfl (sp_361 hw (Nat.le_trans (by decide : 1 ≤ 2 - 1) (Nat.sub_le_sub_right hF 1)) (ml_sub wm_361 (Nat.le_trans (by decide : 21 ≤ 45 - 20) (Nat.sub_le_sub_right hLo 20))) (wp_bind h) (fun r1 h => rs_back0 ?_))
  refine rs_aldn wi_364_4 l0 ?_
  refine rs_lldn wi_364_5 l1 ?_
  refine rs_V wi_364_6 wc_364_397 rfl (dq_isa tf_174_0 wa_15_360) (Nat.le_trans (by decide) hF) (ml_le wm_360 (Nat.le_trans (by decide) hLo)) rfl (sp_360 hw (Nat.le_trans (by decide : 1 ≤ 2 - 1) (Nat.sub_le_sub_right hF 1)) (ml_sub wm_360 (Nat.le_trans (by decide : 21 ≤ 45 - 24) (Nat.sub_le_sub_right hLo 24))) (wp_bind h) (fun r2 h => rs_back0 ?_))
  exact rs_vret wi_364_9 wr_364 (hQ r2 h)
theorem wa_15_364 : rz_cn 15 (rx_yn (rt_P sc fm) 364).cls = true := (by decide +kernel : rz_cn 15 (rt_yn 364).cls = true)
theorem wc_365_402 : rx_ct (rt_P sc fm) 365 402 = some (0, 362, 1) := (by decide +kernel : rt_ct 365 402 = some (0, 362, 1))
theorem wc_365_406 : rx_ct (rt_P sc fm) 365 406 = some (0, 364, 1) := (by decide +kernel : rt_ct 365 406 = some (0, 364, 1))
theorem wi_365_0 : ri (rt_P sc fm) 365 0 (.iload_n 1) (1) := ri_of (by decide +kernel) rfl
theorem wi_365_1 : ri (rt_P sc fm) 365 1 (.ifCond .ge 10) (4) := ri_of (by decide +kernel) rfl
theorem wi_365_11 : ri (rt_P sc fm) 365 11 (.aload_n 0) (12) := ri_of (by decide +kernel) rfl
theorem wi_365_12 : ri (rt_P sc fm) 365 12 (.iload_n 1) (13) := ri_of (by decide +kernel) rfl
theorem wi_365_13 : ri (rt_P sc fm) 365 13 (.ifCond .ge 9) (16) := ri_of (by decide +kernel) rfl
theorem wi_365_16 : ri (rt_P sc fm) 365 16 (.iload_n 1) (17) := ri_of (by decide +kernel) rfl
theorem wi_365_17 : ri (rt_P sc fm) 365 17 (.i2l) (18) := ri_of (by decide +kernel) rfl
theorem wi_365_18 : ri (rt_P sc fm) 365 18 (.lneg) (19) := ri_of (by decide +kernel) rfl
theorem wi_365_19 : ri (rt_P sc fm) 365 19 (.goto 5) (22) := ri_of (by decide +kernel) rfl
theorem wi_365_22 : ri (rt_P sc fm) 365 22 (.iload_n 1) (23) := ri_of (by decide +kernel) rfl
theorem wi_365_23 : ri (rt_P sc fm) 365 23 (.i2l) (24) := ri_of (by decide +kernel) rfl
theorem wi_365_24 : ri (rt_P sc fm) 365 24 (.invokevirtual 406) (27) := ri_of (by decide +kernel) rfl
theorem wi_365_27 : ri (rt_P sc fm) 365 27 (.return_) (28) := ri_of (by decide +kernel) rfl
theorem wi_365_4 : ri (rt_P sc fm) 365 4 (.aload_n 0) (5) := ri_of (by decide +kernel) rfl
theorem wi_365_5 : ri (rt_P sc fm) 365 5 (.ldc_w 400) (8) := ri_of (by decide +kernel) rfl
theorem wi_365_8 : ri (rt_P sc fm) 365 8 (.invokevirtual 402) (11) := ri_of (by decide +kernel) rfl
theorem wk_365_400 : rx_kt (rt_P sc fm) 365 400 = some (.ref (rx_K 48)) := (by decide +kernel : rt_kt 365 400 = some (.ref (rx_K 48)))
theorem wm_364 : rx_ml (rt_P sc fm) 364 = 3 := (by decide +kernel : rt_ml 364 = 3)
theorem wr_365 : rx_rt (rt_P sc fm) 365 = none := (by decide +kernel : rt_rt 365 = none)
/-- MarkHouseModel.sayInt(I)V -/
def d_365 (n : Nat) (a1 : Int32) (c : cS) : Option (cS) :=
  jn (fun p1 : cS =>
    jn (fun p2 : Int64 =>
      Option.bind (d_364 n p2 p1) (fun r3 =>
      some r3))
    (fun j24 =>
    if 0 ≤ a1 then
      j24 (a1 : Int32).toInt64
    else
      j24 (-((a1 : Int32).toInt64))))
  (fun j11 =>
  if 0 ≤ a1 then
    j11 c
  else
    Option.bind (d_362 n 48 c) (fun r4 =>
    j11 r4))
theorem sp_365 {F Lo n : Nat} {a1 : Int32} {c y : cS} {w : cW} {K : cS → Prop} {Q : ((Option Value) ⊕ String) → List va_E → Prop} (hw : rOK fm w) (hF : 5 ≤ F) (hLo : 107 ≤ Lo)  (h : wp (d_365 n a1 c) K) (hQ : ∀ r, K r → Q (.inl none) (hq false r y w)) : rs (rt_P sc fm) 365 F Lo 0 [(0, .ref 174), (1, .int a1)] [] (hq false c y w) Q := by
  unfold d_365 at h
  obtain ⟨lv, elv⟩ : ∃ lv : rx_L, lv = [(0, .ref 174), (1, .int a1)] := ⟨_, rfl⟩
  rw [← elv]
  have l0 : rx_ld lv 0 = some (.ref 174) := by rw [elv]; rfl
  have l1 : rx_ld lv 1 = some (.int a1) := by rw [elv]; rfl
  refine rs_ildn wi_365_0 l1 ?_
  refine wp_jn (B := fun p1 : cS => ∀ lv, rx_ld lv 0 = some (.ref 174) → rx_ld lv 1 = some (.int a1) → rs (rt_P sc fm) 365 F Lo 11 lv [] (hq false p1 y w) Q) h (fun p1 h lv l0 l1 => ?_) (fun j11 hj11 h => ?_)
  ·
    refine rs_aldn wi_365_11 l0 ?_
    refine rs_ildn wi_365_12 l1 ?_
    refine wp_jn (B := fun p2 : Int64 => ∀ lv, rs (rt_P sc fm) 365 F Lo 24 lv [.long p2, .ref 174] (hq false p1 y w) Q) h (fun p2 h lv => ?_) (fun j24 hj24 h => ?_)
    ·
      refine rs_V wi_365_24 wc_365_406 rfl (dq_isa tf_174_0 wa_15_364) (Nat.le_trans (by decide) hF) (ml_le wm_364 (Nat.le_trans (by decide) hLo)) rfl (sp_364 hw (Nat.le_trans (by decide : 2 ≤ 5 - 1) (Nat.sub_le_sub_right hF 1)) (ml_sub wm_364 (Nat.le_trans (by decide : 45 ≤ 107 - 22) (Nat.sub_le_sub_right hLo 22))) (wp_bind h) (fun r3 h => rs_back0 ?_))
      exact rs_vret wi_365_27 wr_365 (hQ r3 h)
    refine rs_ifge (tg := 22) wi_365_13 ⟨by decide, by decide⟩ (fun q => ?_) (fun q => ?_)
    ·
      have h := wp_pos h q
      refine rs_ildn wi_365_22 l1 ?_
      refine rs_pure wi_365_23 rfl ?_
      exact hj24 _ h _
    ·
      have h := wp_neg h q
      refine rs_ildn wi_365_16 l1 ?_
      refine rs_pure wi_365_17 rfl ?_
      refine rs_pure wi_365_18 rfl ?_
      refine rs_goto (tg := 24) wi_365_19 ⟨by decide, by decide⟩ ?_
      exact hj24 _ h _
  refine rs_ifge (tg := 11) wi_365_1 ⟨by decide, by decide⟩ (fun q => ?_) (fun q => ?_)
  ·
    have h := wp_pos h q
    exact hj11 _ h _ l0 l1
  ·
    have h := wp_neg h q
    refine rs_aldn wi_365_4 l0 ?_
    refine rs_ldcwS wi_365_5 wk_365_400 ?_
    refine rs_V wi_365_8 wc_365_402 rfl (dq_isa tf_174_0 wa_15_362) (Nat.le_trans (by decide) hF) (ml_le wm_362 (Nat.le_trans (by decide) hLo)) rfl (sp_362 hw (Nat.le_trans (by decide : 4 ≤ 5 - 1) (Nat.sub_le_sub_right hF 1)) (ml_sub wm_362 (Nat.le_trans (by decide : 85 ≤ 107 - 22) (Nat.sub_le_sub_right hLo 22))) (by decide +kernel) (wp_bind h) (fun r4 h => rs_back0 ?_))
    exact hj11 _ h _ l0 l1
theorem wc_441_459 : rx_ct (rt_P sc fm) 441 459 = some (0, 372, 1) := (by decide +kernel : rt_ct 441 459 = some (0, 372, 1))
theorem wc_441_462 : rx_ct (rt_P sc fm) 441 462 = some (0, 373, 1) := (by decide +kernel : rt_ct 441 462 = some (0, 373, 1))
theorem wc_441_700 : rx_ct (rt_P sc fm) 441 700 = some (0, 430, 2) := (by decide +kernel : rt_ct 441 700 = some (0, 430, 2))
theorem wc_441_706 : rx_ct (rt_P sc fm) 441 706 = some (0, 429, 3) := (by decide +kernel : rt_ct 441 706 = some (0, 429, 3))
theorem wf_441_122 : rx_ft (rt_P sc fm) 441 122 = some (15, 26) := (by decide +kernel : rt_ft 441 122 = some (15, 26))
theorem wf_441_221 : rx_ft (rt_P sc fm) 441 221 = some (15, 61) := (by decide +kernel : rt_ft 441 221 = some (15, 61))
theorem wf_441_224 : rx_ft (rt_P sc fm) 441 224 = some (15, 62) := (by decide +kernel : rt_ft 441 224 = some (15, 62))
theorem wi_441_0 : ri (rt_P sc fm) 441 0 (.aload_n 0) (1) := ri_of (by decide +kernel) rfl
theorem wi_441_1 : ri (rt_P sc fm) 441 1 (.getfield 224) (4) := ri_of (by decide +kernel) rfl
theorem wi_441_10 : ri (rt_P sc fm) 441 10 (.ireturn) (11) := ri_of (by decide +kernel) rfl
theorem wi_441_100 : ri (rt_P sc fm) 441 100 (.ireturn) (101) := ri_of (by decide +kernel) rfl
theorem wi_441_11 : ri (rt_P sc fm) 441 11 (.aload_n 0) (12) := ri_of (by decide +kernel) rfl
theorem wi_441_12 : ri (rt_P sc fm) 441 12 (.aload_n 0) (13) := ri_of (by decide +kernel) rfl
theorem wi_441_13 : ri (rt_P sc fm) 441 13 (.getfield 221) (16) := ri_of (by decide +kernel) rfl
theorem wi_441_16 : ri (rt_P sc fm) 441 16 (.iload_n 1) (17) := ri_of (by decide +kernel) rfl
theorem wi_441_17 : ri (rt_P sc fm) 441 17 (.laload) (18) := ri_of (by decide +kernel) rfl
theorem wi_441_18 : ri (rt_P sc fm) 441 18 (.invokevirtual 459) (21) := ri_of (by decide +kernel) rfl
theorem wi_441_21 : ri (rt_P sc fm) 441 21 (.istore_n 2) (22) := ri_of (by decide +kernel) rfl
theorem wi_441_22 : ri (rt_P sc fm) 441 22 (.iload_n 2) (23) := ri_of (by decide +kernel) rfl
theorem wi_441_23 : ri (rt_P sc fm) 441 23 (.ifCond .lt 18) (26) := ri_of (by decide +kernel) rfl
theorem wi_441_26 : ri (rt_P sc fm) 441 26 (.aload_n 0) (27) := ri_of (by decide +kernel) rfl
theorem wi_441_27 : ri (rt_P sc fm) 441 27 (.iload_n 1) (28) := ri_of (by decide +kernel) rfl
theorem wi_441_28 : ri (rt_P sc fm) 441 28 (.iload_n 2) (29) := ri_of (by decide +kernel) rfl
theorem wi_441_29 : ri (rt_P sc fm) 441 29 (.invokevirtual 700) (32) := ri_of (by decide +kernel) rfl
theorem wi_441_32 : ri (rt_P sc fm) 441 32 (.ifCond .lt 7) (35) := ri_of (by decide +kernel) rfl
theorem wi_441_35 : ri (rt_P sc fm) 441 35 (.iconst 1) (36) := ri_of (by decide +kernel) rfl
theorem wi_441_36 : ri (rt_P sc fm) 441 36 (.goto 4) (39) := ri_of (by decide +kernel) rfl
theorem wi_441_39 : ri (rt_P sc fm) 441 39 (.iconst 0) (40) := ri_of (by decide +kernel) rfl
theorem wi_441_4 : ri (rt_P sc fm) 441 4 (.iload_n 1) (5) := ri_of (by decide +kernel) rfl
theorem wi_441_40 : ri (rt_P sc fm) 441 40 (.ireturn) (41) := ri_of (by decide +kernel) rfl
theorem wi_441_41 : ri (rt_P sc fm) 441 41 (.aload_n 0) (42) := ri_of (by decide +kernel) rfl
theorem wi_441_42 : ri (rt_P sc fm) 441 42 (.aload_n 0) (43) := ri_of (by decide +kernel) rfl
theorem wi_441_43 : ri (rt_P sc fm) 441 43 (.getfield 221) (46) := ri_of (by decide +kernel) rfl
theorem wi_441_46 : ri (rt_P sc fm) 441 46 (.iload_n 1) (47) := ri_of (by decide +kernel) rfl
theorem wi_441_47 : ri (rt_P sc fm) 441 47 (.laload) (48) := ri_of (by decide +kernel) rfl
theorem wi_441_48 : ri (rt_P sc fm) 441 48 (.invokevirtual 462) (51) := ri_of (by decide +kernel) rfl
theorem wi_441_5 : ri (rt_P sc fm) 441 5 (.baload) (6) := ri_of (by decide +kernel) rfl
theorem wi_441_51 : ri (rt_P sc fm) 441 51 (.istore_n 3) (52) := ri_of (by decide +kernel) rfl
theorem wi_441_52 : ri (rt_P sc fm) 441 52 (.iconst 1) (53) := ri_of (by decide +kernel) rfl
theorem wi_441_53 : ri (rt_P sc fm) 441 53 (.istore 4) (55) := ri_of (by decide +kernel) rfl
theorem wi_441_55 : ri (rt_P sc fm) 441 55 (.iconst 0) (56) := ri_of (by decide +kernel) rfl
theorem wi_441_56 : ri (rt_P sc fm) 441 56 (.istore 5) (58) := ri_of (by decide +kernel) rfl
theorem wi_441_58 : ri (rt_P sc fm) 441 58 (.iload 5) (60) := ri_of (by decide +kernel) rfl
theorem wi_441_6 : ri (rt_P sc fm) 441 6 (.ifCond .eq 5) (9) := ri_of (by decide +kernel) rfl
theorem wi_441_60 : ri (rt_P sc fm) 441 60 (.aload_n 0) (61) := ri_of (by decide +kernel) rfl
theorem wi_441_61 : ri (rt_P sc fm) 441 61 (.getfield 122) (64) := ri_of (by decide +kernel) rfl
theorem wi_441_64 : ri (rt_P sc fm) 441 64 (.iload_n 3) (65) := ri_of (by decide +kernel) rfl
theorem wi_441_65 : ri (rt_P sc fm) 441 65 (.iaload) (66) := ri_of (by decide +kernel) rfl
theorem wi_441_66 : ri (rt_P sc fm) 441 66 (.if_icmp .ge 32) (69) := ri_of (by decide +kernel) rfl
theorem wi_441_69 : ri (rt_P sc fm) 441 69 (.iload 4) (71) := ri_of (by decide +kernel) rfl
theorem wi_441_71 : ri (rt_P sc fm) 441 71 (.ifCond .eq 18) (74) := ri_of (by decide +kernel) rfl
theorem wi_441_74 : ri (rt_P sc fm) 441 74 (.aload_n 0) (75) := ri_of (by decide +kernel) rfl
theorem wi_441_75 : ri (rt_P sc fm) 441 75 (.iload_n 1) (76) := ri_of (by decide +kernel) rfl
theorem wi_441_76 : ri (rt_P sc fm) 441 76 (.iload_n 3) (77) := ri_of (by decide +kernel) rfl
theorem wi_441_77 : ri (rt_P sc fm) 441 77 (.iload 5) (79) := ri_of (by decide +kernel) rfl
theorem wi_441_79 : ri (rt_P sc fm) 441 79 (.invokevirtual 706) (82) := ri_of (by decide +kernel) rfl
theorem wi_441_82 : ri (rt_P sc fm) 441 82 (.ifCond .lt 7) (85) := ri_of (by decide +kernel) rfl
theorem wi_441_85 : ri (rt_P sc fm) 441 85 (.iconst 1) (86) := ri_of (by decide +kernel) rfl
theorem wi_441_86 : ri (rt_P sc fm) 441 86 (.goto 4) (89) := ri_of (by decide +kernel) rfl
theorem wi_441_89 : ri (rt_P sc fm) 441 89 (.iconst 0) (90) := ri_of (by decide +kernel) rfl
theorem wi_441_9 : ri (rt_P sc fm) 441 9 (.iconst 1) (10) := ri_of (by decide +kernel) rfl
theorem wi_441_90 : ri (rt_P sc fm) 441 90 (.istore 4) (92) := ri_of (by decide +kernel) rfl
theorem wi_441_92 : ri (rt_P sc fm) 441 92 (.iinc 5 1) (95) := ri_of (by decide +kernel) rfl
theorem wi_441_95 : ri (rt_P sc fm) 441 95 (.goto (-37)) (98) := ri_of (by decide +kernel) rfl
theorem wi_441_98 : ri (rt_P sc fm) 441 98 (.iload 4) (100) := ri_of (by decide +kernel) rfl
theorem wr_441 : rx_rt (rt_P sc fm) 441 = (some FieldType.boolean) := (by decide +kernel : rt_rt 441 = (some FieldType.boolean))
/-- MarkHouseModel.isSound(I)Z -/
def d_441 (n : Nat) (a1 : Int32) (c : cS) : Option (Int32 × cS) :=
  if ib a1 24380 then
  if (c.1 224 (ix a1)) = 0 then
    if ib a1 24380 then
    Option.bind (d_372 n (c.2 223 (ix a1)) c) (fun v3 =>
    if v3 < 0 then
      if ib a1 24380 then
      Option.bind (d_373 n (c.2 223 (ix a1)) c) (fun v6 =>
      Option.bind (whl (R := (Int32 × cS)) (fun s10 : Int32 × Int32 × cS =>
        if ib v6 12 then
        if (s10.2.2.1 190 (ix v6)) ≤ s10.2.1 then
          some (.inr (s10.1, s10.2.2))
        else
          jn (fun p12 : Int32 × cS =>
            lt (s10.2.1 + 1 : Int32) (fun v15 =>
            some (.inl (p12.1, v15, p12.2))))
          (fun j90 =>
          jn (fun p17 : cS =>
            j90 (0, p17))
          (fun j89 =>
          if s10.1 = 0 then
            j89 s10.2.2
          else
            Option.bind (d_429 n a1 v6 s10.2.1 s10.2.2) (fun r18 =>
            if r18.1 < 0 then
              j89 r18.2
            else
              j90 (1, r18.2))))
        else none) n (1, 0, c))
      (fun x19 : Int32 × cS =>
        if nb x19.1 then
        some (x19.1, x19.2)
        else none))
      else none
    else
      Option.bind (d_430 n a1 v3 c) (fun v21 =>
      jn (fun p22 : Int32 =>
        if nb p22 then
        some (p22, c)
        else none)
      (fun j40 =>
      if v21 < 0 then
        j40 0
      else
        j40 1)))
    else none
  else
    some (1, c)
  else none
theorem sp_441 {F Lo n : Nat} {a1 : Int32} {c y : cS} {w : cW} {K : Int32 × cS → Prop} {Q : ((Option Value) ⊕ String) → List va_E → Prop} (hw : rOK fm w) (hF : 2 ≤ F) (hLo : 49 ≤ Lo)  (h : wp (d_441 n a1 c) K) (hQ : ∀ r, K r → Q (.inl (some (.int r.1))) (hq false r.2 y w)) : rs (rt_P sc fm) 441 F Lo 0 [(0, .ref 174), (1, .int a1)] [] (hq false c y w) Q := by
  unfold d_441 at h
  obtain ⟨lv, elv⟩ : ∃ lv : rx_L, lv = [(0, .ref 174), (1, .int a1)] := ⟨_, rfl⟩
  rw [← elv]
  have l0 : rx_ld lv 0 = some (.ref 174) := by rw [elv]; rfl
  have l1 : rx_ld lv 1 = some (.int a1) := by rw [elv]; rfl
  refine rs_aldn wi_441_0 l0 ?_
  refine dq_gr wi_441_1 wf_441_224 tf_174_62 ?_
  refine rs_ildn wi_441_4 l1 ?_
  obtain ⟨g1, h⟩ := wp_gd h
  refine dq_zald wi_441_5 t_224 g1 ?_
  refine rs_ifeq (tg := 11) wi_441_6 ⟨by decide, by decide⟩ (fun q => ?_) (fun q => ?_)
  ·
    have h := wp_pos h q
    refine rs_aldn wi_441_11 l0 ?_
    refine rs_aldn wi_441_12 l0 ?_
    refine dq_gr wi_441_13 wf_441_221 tf_174_61 ?_
    refine rs_ildn wi_441_16 l1 ?_
    obtain ⟨g2, h⟩ := wp_gd h
    refine dq_lald wi_441_17 t_223 g2 ?_
    refine rs_V wi_441_18 wc_441_459 rfl (dq_isa tf_174_0 wa_15_372) (Nat.le_trans (by decide) hF) (ml_le wm_372 (Nat.le_trans (by decide) hLo)) rfl (sp_372 hw (Nat.le_trans (by decide : 0 ≤ 2 - 1) (Nat.sub_le_sub_right hF 1)) (ml_sub wm_372 (Nat.le_trans (by decide : 0 ≤ 49 - 23) (Nat.sub_le_sub_right hLo 23))) (wp_bind h) (fun v3 h => rs_back1 ?_))
    refine dl_istn wi_441_21 rfl (fun lv l2 t4 => ?_)
    have l0 := t4 _ _ (by decide) (Or.inl rfl) l0
    have l1 := t4 _ _ (by decide) (Or.inl rfl) l1
    refine rs_ildn wi_441_22 l2 ?_
    refine rs_iflt (tg := 41) wi_441_23 ⟨by decide, by decide⟩ (fun q => ?_) (fun q => ?_)
    ·
      have h := wp_pos h q
      refine rs_aldn wi_441_41 l0 ?_
      refine rs_aldn wi_441_42 l0 ?_
      refine dq_gr wi_441_43 wf_441_221 tf_174_61 ?_
      refine rs_ildn wi_441_46 l1 ?_
      obtain ⟨g5, h⟩ := wp_gd h
      refine dq_lald wi_441_47 t_223 g5 ?_
      refine rs_V wi_441_48 wc_441_462 rfl (dq_isa tf_174_0 wa_15_373) (Nat.le_trans (by decide) hF) (ml_le wm_373 (Nat.le_trans (by decide) hLo)) rfl (sp_373 hw (Nat.le_trans (by decide : 0 ≤ 2 - 1) (Nat.sub_le_sub_right hF 1)) (ml_sub wm_373 (Nat.le_trans (by decide : 0 ≤ 49 - 23) (Nat.sub_le_sub_right hLo 23))) (wp_bind h) (fun v6 h => rs_back1 ?_))
      refine dl_istn wi_441_51 rfl (fun lv l3 t7 => ?_)
      have l0 := t7 _ _ (by decide) (Or.inl rfl) l0
      have l1 := t7 _ _ (by decide) (Or.inl rfl) l1
      refine rs_pure wi_441_52 rfl ?_
      refine rs_topi (v := 1) (by decide) ?_
      refine dl_ist wi_441_53 rfl (fun lv l4 t8 => ?_)
      have l0 := t8 _ _ (by decide) (Or.inl rfl) l0
      have l1 := t8 _ _ (by decide) (Or.inl rfl) l1
      have l3 := t8 _ _ (by decide) (Or.inl rfl) l3
      refine rs_pure wi_441_55 rfl ?_
      refine rs_topi (v := 0) (by decide) ?_
      refine dl_ist wi_441_56 rfl (fun lv l5 t9 => ?_)
      have l0 := t9 _ _ (by decide) (Or.inl rfl) l0
      have l1 := t9 _ _ (by decide) (Or.inl rfl) l1
      have l3 := t9 _ _ (by decide) (Or.inl rfl) l3
      have l4 := t9 _ _ (by decide) (Or.inl rfl) l4
      refine whl_ex (A := fun s10 : Int32 × Int32 × cS => ∀ lv, rx_ld lv 0 = some (.ref 174) → rx_ld lv 1 = some (.int a1) → rx_ld lv 3 = some (.int v6) → rx_ld lv 4 = some (.int s10.1) → rx_ld lv 5 = some (.int s10.2.1) → rs (rt_P sc fm) 441 F Lo 58 lv [] (hq false s10.2.2 y w) Q) (B := (fun x19 : Int32 × cS => ∀ lv, rx_ld lv 4 = some (.int x19.1) → rs (rt_P sc fm) 441 F Lo 98 lv [] (hq false x19.2 y w) Q)) ?_ ?_ _ _ (wp_bind h) _ l0 l1 l3 l4 l5
      · intro s10 h lv l0 l1 l3 l4 l5
        refine rs_ild wi_441_58 l5 ?_
        refine rs_aldn wi_441_60 l0 ?_
        refine dq_gr wi_441_61 wf_441_122 tf_174_26 ?_
        refine rs_ildn wi_441_64 l3 ?_
        obtain ⟨g11, h⟩ := wp_gd h
        refine dq_iald wi_441_65 t_190 g11 ?_
        refine rs_icge (tg := 98) wi_441_66 ⟨by decide, by decide⟩ (fun q => ?_) (fun q => ?_)
        ·
          have h := wp_pos h q
          exact h _ l4
        ·
          have h := wp_neg h q
          refine rs_ild wi_441_69 l4 ?_
          refine wp_jn (B := fun p12 : Int32 × cS => ∀ lv, rx_ld lv 0 = some (.ref 174) → rx_ld lv 1 = some (.int a1) → rx_ld lv 3 = some (.int v6) → rx_ld lv 5 = some (.int s10.2.1) → rs (rt_P sc fm) 441 F Lo 90 lv [.int p12.1] (hq false p12.2 y w) Q) h (fun p12 h lv l0 l1 l3 l5 => ?_) (fun j90 hj90 h => ?_)
          ·
            refine dl_ist wi_441_90 rfl (fun lv l4 t13 => ?_)
            have l0 := t13 _ _ (by decide) (Or.inl rfl) l0
            have l1 := t13 _ _ (by decide) (Or.inl rfl) l1
            have l3 := t13 _ _ (by decide) (Or.inl rfl) l3
            have l5 := t13 _ _ (by decide) (Or.inl rfl) l5
            obtain ⟨v15, e16, h⟩ := wp_lt h
            refine dl_inc wi_441_92 l5 rfl e16 (fun lv l5 t14 => ?_)
            have l0 := t14 _ _ (by decide) (Or.inl rfl) l0
            have l1 := t14 _ _ (by decide) (Or.inl rfl) l1
            have l3 := t14 _ _ (by decide) (Or.inl rfl) l3
            have l4 := t14 _ _ (by decide) (Or.inl rfl) l4
            refine rs_goto (tg := 58) wi_441_95 ⟨by decide, by decide⟩ ?_
            exact h _ l0 l1 l3 l4 l5
          refine wp_jn (B := fun p17 : cS => ∀ lv, rx_ld lv 0 = some (.ref 174) → rx_ld lv 1 = some (.int a1) → rx_ld lv 3 = some (.int v6) → rx_ld lv 5 = some (.int s10.2.1) → rs (rt_P sc fm) 441 F Lo 89 lv [] (hq false p17 y w) Q) h (fun p17 h lv l0 l1 l3 l5 => ?_) (fun j89 hj89 h => ?_)
          ·
            refine rs_pure wi_441_89 rfl ?_
            refine rs_topi (v := 0) (by decide) ?_
            exact hj90 _ h _ l0 l1 l3 l5
          refine rs_ifeq (tg := 89) wi_441_71 ⟨by decide, by decide⟩ (fun q => ?_) (fun q => ?_)
          ·
            have h := wp_pos h q
            exact hj89 _ h _ l0 l1 l3 l5
          ·
            have h := wp_neg h q
            refine rs_aldn wi_441_74 l0 ?_
            refine rs_ildn wi_441_75 l1 ?_
            refine rs_ildn wi_441_76 l3 ?_
            refine rs_ild wi_441_77 l5 ?_
            refine rs_V wi_441_79 wc_441_706 rfl (dq_isa tf_174_0 wa_15_429) (Nat.le_trans (by decide) hF) (ml_le wm_429 (Nat.le_trans (by decide) hLo)) rfl (sp_429 hw (Nat.le_trans (by decide : 0 ≤ 2 - 1) (Nat.sub_le_sub_right hF 1)) (ml_sub wm_429 (Nat.le_trans (by decide : 0 ≤ 49 - 26) (Nat.sub_le_sub_right hLo 26))) (wp_bind h) (fun r18 h => rs_back1 ?_))
            refine rs_iflt (tg := 89) wi_441_82 ⟨by decide, by decide⟩ (fun q => ?_) (fun q => ?_)
            ·
              have h := wp_pos h q
              exact hj89 _ h _ l0 l1 l3 l5
            ·
              have h := wp_neg h q
              refine rs_pure wi_441_85 rfl ?_
              refine rs_topi (v := 1) (by decide) ?_
              refine rs_goto (tg := 90) wi_441_86 ⟨by decide, by decide⟩ ?_
              exact hj90 _ h _ l0 l1 l3 l5
      ·
        intro x19 h lv l4
        refine rs_ild wi_441_98 l4 ?_
        obtain ⟨g20, h⟩ := wp_gd h
        exact rs_iret wi_441_100 wr_441 (nb_n g20) (hQ (x19.1, x19.2) h)
    ·
      have h := wp_neg h q
      refine rs_aldn wi_441_26 l0 ?_
      refine rs_ildn wi_441_27 l1 ?_
      refine rs_ildn wi_441_28 l2 ?_
      refine rs_V wi_441_29 wc_441_700 rfl (dq_isa tf_174_0 wa_15_430) (Nat.le_trans (by decide) hF) (ml_le wm_430 (Nat.le_trans (by decide) hLo)) rfl (sp_430 hw (Nat.le_trans (by decide : 1 ≤ 2 - 1) (Nat.sub_le_sub_right hF 1)) (ml_sub wm_430 (Nat.le_trans (by decide : 24 ≤ 49 - 25) (Nat.sub_le_sub_right hLo 25))) (wp_bind h) (fun v21 h => rs_back1 ?_))
      refine wp_jn (B := fun p22 : Int32 => ∀ lv, rs (rt_P sc fm) 441 F Lo 40 lv [.int p22] (hq false c y w) Q) h (fun p22 h lv => ?_) (fun j40 hj40 h => ?_)
      ·
        obtain ⟨g23, h⟩ := wp_gd h
        exact rs_iret wi_441_40 wr_441 (nb_n g23) (hQ (p22, c) h)
      refine rs_iflt (tg := 39) wi_441_32 ⟨by decide, by decide⟩ (fun q => ?_) (fun q => ?_)
      ·
        have h := wp_pos h q
        refine rs_pure wi_441_39 rfl ?_
        refine rs_topi (v := 0) (by decide) ?_
        exact hj40 _ h _
      ·
        have h := wp_neg h q
        refine rs_pure wi_441_35 rfl ?_
        refine rs_topi (v := 1) (by decide) ?_
        refine rs_goto (tg := 40) wi_441_36 ⟨by decide, by decide⟩ ?_
        exact hj40 _ h _
  ·
    have h := wp_neg h q
    refine rs_pure wi_441_9 rfl ?_
    refine rs_topi (v := 1) (by decide) ?_
    exact rs_iret wi_441_10 wr_441 (nb_n (by decide)) (hQ (1, c) h)
theorem wf_440_227 : rx_ft (rt_P sc fm) 440 227 = some (15, 63) := (by decide +kernel : rt_ft 440 227 = some (15, 63))
theorem wf_440_231 : rx_ft (rt_P sc fm) 440 231 = some (15, 64) := (by decide +kernel : rt_ft 440 231 = some (15, 64))
theorem wi_440_0 : ri (rt_P sc fm) 440 0 (.iconst 0) (1) := ri_of (by decide +kernel) rfl
theorem wi_440_1 : ri (rt_P sc fm) 440 1 (.istore 4) (3) := ri_of (by decide +kernel) rfl
theorem wi_440_12 : ri (rt_P sc fm) 440 12 (.iload_n 1) (13) := ri_of (by decide +kernel) rfl
theorem wi_440_13 : ri (rt_P sc fm) 440 13 (.iaload) (14) := ri_of (by decide +kernel) rfl
theorem wi_440_14 : ri (rt_P sc fm) 440 14 (.if_icmp .ge 37) (17) := ri_of (by decide +kernel) rfl
theorem wi_440_17 : ri (rt_P sc fm) 440 17 (.iload 4) (19) := ri_of (by decide +kernel) rfl
theorem wi_440_19 : ri (rt_P sc fm) 440 19 (.ifCond .ne 19) (22) := ri_of (by decide +kernel) rfl
theorem wi_440_22 : ri (rt_P sc fm) 440 22 (.aload_n 0) (23) := ri_of (by decide +kernel) rfl
theorem wi_440_23 : ri (rt_P sc fm) 440 23 (.getfield 231) (26) := ri_of (by decide +kernel) rfl
theorem wi_440_26 : ri (rt_P sc fm) 440 26 (.iload_n 1) (27) := ri_of (by decide +kernel) rfl
theorem wi_440_27 : ri (rt_P sc fm) 440 27 (.iconst 4) (28) := ri_of (by decide +kernel) rfl
theorem wi_440_28 : ri (rt_P sc fm) 440 28 (.imul) (29) := ri_of (by decide +kernel) rfl
theorem wi_440_29 : ri (rt_P sc fm) 440 29 (.iload 5) (31) := ri_of (by decide +kernel) rfl
theorem wi_440_3 : ri (rt_P sc fm) 440 3 (.iconst 0) (4) := ri_of (by decide +kernel) rfl
theorem wi_440_31 : ri (rt_P sc fm) 440 31 (.iadd) (32) := ri_of (by decide +kernel) rfl
theorem wi_440_32 : ri (rt_P sc fm) 440 32 (.laload) (33) := ri_of (by decide +kernel) rfl
theorem wi_440_33 : ri (rt_P sc fm) 440 33 (.lload_n 2) (34) := ri_of (by decide +kernel) rfl
theorem wi_440_34 : ri (rt_P sc fm) 440 34 (.lcmp) (35) := ri_of (by decide +kernel) rfl
theorem wi_440_35 : ri (rt_P sc fm) 440 35 (.ifCond .ne 7) (38) := ri_of (by decide +kernel) rfl
theorem wi_440_38 : ri (rt_P sc fm) 440 38 (.iconst 1) (39) := ri_of (by decide +kernel) rfl
theorem wi_440_39 : ri (rt_P sc fm) 440 39 (.goto 4) (42) := ri_of (by decide +kernel) rfl
theorem wi_440_4 : ri (rt_P sc fm) 440 4 (.istore 5) (6) := ri_of (by decide +kernel) rfl
theorem wi_440_42 : ri (rt_P sc fm) 440 42 (.iconst 0) (43) := ri_of (by decide +kernel) rfl
theorem wi_440_43 : ri (rt_P sc fm) 440 43 (.istore 4) (45) := ri_of (by decide +kernel) rfl
theorem wi_440_45 : ri (rt_P sc fm) 440 45 (.iinc 5 1) (48) := ri_of (by decide +kernel) rfl
theorem wi_440_48 : ri (rt_P sc fm) 440 48 (.goto (-42)) (51) := ri_of (by decide +kernel) rfl
theorem wi_440_51 : ri (rt_P sc fm) 440 51 (.iload 4) (53) := ri_of (by decide +kernel) rfl
theorem wi_440_53 : ri (rt_P sc fm) 440 53 (.ireturn) (54) := ri_of (by decide +kernel) rfl
theorem wi_440_6 : ri (rt_P sc fm) 440 6 (.iload 5) (8) := ri_of (by decide +kernel) rfl
theorem wi_440_8 : ri (rt_P sc fm) 440 8 (.aload_n 0) (9) := ri_of (by decide +kernel) rfl
theorem wi_440_9 : ri (rt_P sc fm) 440 9 (.getfield 227) (12) := ri_of (by decide +kernel) rfl
theorem wr_440 : rx_rt (rt_P sc fm) 440 = (some FieldType.boolean) := (by decide +kernel : rt_rt 440 = (some FieldType.boolean))
/-- MarkHouseModel.hasPair(IJ)Z -/
def d_440 (n : Nat) (a1 : Int32) (a2 : Int64) (c : cS) : Option (Int32) :=
  Option.bind (whl (R := (Int32)) (fun s3 : Int32 × Int32 =>
    if ib a1 24380 then
    if (c.1 225 (ix a1)) ≤ s3.2 then
      some (.inr s3.1)
    else
      jn (fun p5 : Int32 =>
        lt (s3.2 + 1 : Int32) (fun v8 =>
        some (.inl (p5, v8))))
      (fun j43 =>
      jn (fun p10 : Unit =>
        j43 1)
      (fun j38 =>
      if s3.1 = 0 then
        if ib ((a1 * 4) + s3.2) 97520 then
        if (lg_cmp (c.2 226 (ix ((a1 * 4) + s3.2))) a2) = 0 then
          j38 ()
        else
          j43 0
        else none
      else
        j38 ()))
    else none) n (0, 0))
  (fun x12 : Int32 =>
    if nb x12 then
    some x12
    else none)
theorem sp_440 {F Lo n : Nat} {a1 : Int32} {a2 : Int64} {c y : cS} {w : cW} {K : Int32 → Prop} {Q : ((Option Value) ⊕ String) → List va_E → Prop} (hw : rOK fm w) (hF : 0 ≤ F) (hLo : 0 ≤ Lo)  (h : wp (d_440 n a1 a2 c) K) (hQ : ∀ r, K r → Q (.inl (some (.int r))) (hq false c y w)) : rs (rt_P sc fm) 440 F Lo 0 [(0, .ref 174), (1, .int a1), (2, .long a2)] [] (hq false c y w) Q := by
  unfold d_440 at h
  obtain ⟨lv, elv⟩ : ∃ lv : rx_L, lv = [(0, .ref 174), (1, .int a1), (2, .long a2)] := ⟨_, rfl⟩
  rw [← elv]
  have l0 : rx_ld lv 0 = some (.ref 174) := by rw [elv]; rfl
  have l1 : rx_ld lv 1 = some (.int a1) := by rw [elv]; rfl
  have l2 : rx_ld lv 2 = some (.long a2) := by rw [elv]; rfl
  refine rs_pure wi_440_0 rfl ?_
  refine rs_topi (v := 0) (by decide) ?_
  refine dl_ist wi_440_1 rfl (fun lv l4 t1 => ?_)
  have l0 := t1 _ _ (by decide) (Or.inl rfl) l0
  have l1 := t1 _ _ (by decide) (Or.inl rfl) l1
  have l2 := t1 _ _ (by decide) (Or.inr (by decide)) l2
  refine rs_pure wi_440_3 rfl ?_
  refine rs_topi (v := 0) (by decide) ?_
  refine dl_ist wi_440_4 rfl (fun lv l5 t2 => ?_)
  have l0 := t2 _ _ (by decide) (Or.inl rfl) l0
  have l1 := t2 _ _ (by decide) (Or.inl rfl) l1
  have l2 := t2 _ _ (by decide) (Or.inr (by decide)) l2
  have l4 := t2 _ _ (by decide) (Or.inl rfl) l4
  refine whl_ex (A := fun s3 : Int32 × Int32 => ∀ lv, rx_ld lv 0 = some (.ref 174) → rx_ld lv 1 = some (.int a1) → rx_ld lv 2 = some (.long a2) → rx_ld lv 4 = some (.int s3.1) → rx_ld lv 5 = some (.int s3.2) → rs (rt_P sc fm) 440 F Lo 6 lv [] (hq false c y w) Q) (B := (fun x12 : Int32 => ∀ lv, rx_ld lv 4 = some (.int x12) → rs (rt_P sc fm) 440 F Lo 51 lv [] (hq false c y w) Q)) ?_ ?_ _ _ (wp_bind h) _ l0 l1 l2 l4 l5
  · intro s3 h lv l0 l1 l2 l4 l5
    refine rs_ild wi_440_6 l5 ?_
    refine rs_aldn wi_440_8 l0 ?_
    refine dq_gr wi_440_9 wf_440_227 tf_174_63 ?_
    refine rs_ildn wi_440_12 l1 ?_
    obtain ⟨g4, h⟩ := wp_gd h
    refine dq_iald wi_440_13 t_225 g4 ?_
    refine rs_icge (tg := 51) wi_440_14 ⟨by decide, by decide⟩ (fun q => ?_) (fun q => ?_)
    ·
      have h := wp_pos h q
      exact h _ l4
    ·
      have h := wp_neg h q
      refine rs_ild wi_440_17 l4 ?_
      refine wp_jn (B := fun p5 : Int32 => ∀ lv, rx_ld lv 0 = some (.ref 174) → rx_ld lv 1 = some (.int a1) → rx_ld lv 2 = some (.long a2) → rx_ld lv 5 = some (.int s3.2) → rs (rt_P sc fm) 440 F Lo 43 lv [.int p5] (hq false c y w) Q) h (fun p5 h lv l0 l1 l2 l5 => ?_) (fun j43 hj43 h => ?_)
      ·
        refine dl_ist wi_440_43 rfl (fun lv l4 t6 => ?_)
        have l0 := t6 _ _ (by decide) (Or.inl rfl) l0
        have l1 := t6 _ _ (by decide) (Or.inl rfl) l1
        have l2 := t6 _ _ (by decide) (Or.inr (by decide)) l2
        have l5 := t6 _ _ (by decide) (Or.inl rfl) l5
        obtain ⟨v8, e9, h⟩ := wp_lt h
        refine dl_inc wi_440_45 l5 rfl e9 (fun lv l5 t7 => ?_)
        have l0 := t7 _ _ (by decide) (Or.inl rfl) l0
        have l1 := t7 _ _ (by decide) (Or.inl rfl) l1
        have l2 := t7 _ _ (by decide) (Or.inr (by decide)) l2
        have l4 := t7 _ _ (by decide) (Or.inl rfl) l4
        refine rs_goto (tg := 6) wi_440_48 ⟨by decide, by decide⟩ ?_
        exact h _ l0 l1 l2 l4 l5
      refine wp_jn (B := fun p10 : Unit => ∀ lv, rx_ld lv 0 = some (.ref 174) → rx_ld lv 1 = some (.int a1) → rx_ld lv 2 = some (.long a2) → rx_ld lv 5 = some (.int s3.2) → rs (rt_P sc fm) 440 F Lo 38 lv [] (hq false c y w) Q) h (fun p10 h lv l0 l1 l2 l5 => ?_) (fun j38 hj38 h => ?_)
      ·
        refine rs_pure wi_440_38 rfl ?_
        refine rs_topi (v := 1) (by decide) ?_
        refine rs_goto (tg := 43) wi_440_39 ⟨by decide, by decide⟩ ?_
        exact hj43 _ h _ l0 l1 l2 l5
      refine rs_ifne (tg := 38) wi_440_19 ⟨by decide, by decide⟩ (fun q => ?_) (fun q => ?_)
      ·
        have h := wp_neg h q
        exact hj38 _ h _ l0 l1 l2 l5
      ·
        have h := wp_pos h q
        refine rs_aldn wi_440_22 l0 ?_
        refine dq_gr wi_440_23 wf_440_231 tf_174_64 ?_
        refine rs_ildn wi_440_26 l1 ?_
        refine rs_pure wi_440_27 rfl ?_
        refine rs_topi (v := 4) (by decide) ?_
        refine rs_pure wi_440_28 rfl ?_
        refine rs_ild wi_440_29 l5 ?_
        refine rs_pure wi_440_31 rfl ?_
        obtain ⟨g11, h⟩ := wp_gd h
        refine dq_lald wi_440_32 t_226 g11 ?_
        refine rs_lldn wi_440_33 l2 ?_
        refine rs_pure wi_440_34 rfl ?_
        refine rs_ifne (tg := 42) wi_440_35 ⟨by decide, by decide⟩ (fun q => ?_) (fun q => ?_)
        ·
          have h := wp_neg h q
          refine rs_pure wi_440_42 rfl ?_
          refine rs_topi (v := 0) (by decide) ?_
          exact hj43 _ h _ l0 l1 l2 l5
        ·
          have h := wp_pos h q
          exact hj38 _ h _ l0 l1 l2 l5
  ·
    intro x12 h lv l4
    refine rs_ild wi_440_51 l4 ?_
    obtain ⟨g13, h⟩ := wp_gd h
    exact rs_iret wi_440_53 wr_440 (nb_n g13) (hQ x12 h)
theorem wa_15_365 : rz_cn 15 (rx_yn (rt_P sc fm) 365).cls = true := (by decide +kernel : rz_cn 15 (rt_yn 365).cls = true)
theorem wa_15_366 : rz_cn 15 (rx_yn (rt_P sc fm) 366).cls = true := (by decide +kernel : rz_cn 15 (rt_yn 366).cls = true)
theorem wa_15_440 : rz_cn 15 (rx_yn (rt_P sc fm) 440).cls = true := (by decide +kernel : rz_cn 15 (rt_yn 440).cls = true)
theorem wc_439_402 : rx_ct (rt_P sc fm) 439 402 = some (0, 362, 1) := (by decide +kernel : rt_ct 439 402 = some (0, 362, 1))
theorem wc_439_459 : rx_ct (rt_P sc fm) 439 459 = some (0, 372, 1) := (by decide +kernel : rt_ct 439 459 = some (0, 372, 1))
theorem wc_439_462 : rx_ct (rt_P sc fm) 439 462 = some (0, 373, 1) := (by decide +kernel : rt_ct 439 462 = some (0, 373, 1))
theorem wc_439_700 : rx_ct (rt_P sc fm) 439 700 = some (0, 430, 2) := (by decide +kernel : rt_ct 439 700 = some (0, 430, 2))
theorem wc_439_706 : rx_ct (rt_P sc fm) 439 706 = some (0, 429, 3) := (by decide +kernel : rt_ct 439 706 = some (0, 429, 3))
theorem wc_439_765 : rx_ct (rt_P sc fm) 439 765 = some (0, 363, 1) := (by decide +kernel : rt_ct 439 765 = some (0, 363, 1))
theorem wc_439_770 : rx_ct (rt_P sc fm) 439 770 = some (0, 440, 2) := (by decide +kernel : rt_ct 439 770 = some (0, 440, 2))
theorem wc_439_780 : rx_ct (rt_P sc fm) 439 780 = some (0, 366, 1) := (by decide +kernel : rt_ct 439 780 = some (0, 366, 1))
theorem wc_439_783 : rx_ct (rt_P sc fm) 439 783 = some (0, 365, 1) := (by decide +kernel : rt_ct 439 783 = some (0, 365, 1))
theorem wf_439_100 : rx_ft (rt_P sc fm) 439 100 = some (15, 18) := (by decide +kernel : rt_ft 439 100 = some (15, 18))
theorem wf_439_122 : rx_ft (rt_P sc fm) 439 122 = some (15, 26) := (by decide +kernel : rt_ft 439 122 = some (15, 26))
theorem wf_439_125 : rx_ft (rt_P sc fm) 439 125 = some (15, 27) := (by decide +kernel : rt_ft 439 125 = some (15, 27))
theorem wf_439_221 : rx_ft (rt_P sc fm) 439 221 = some (15, 61) := (by decide +kernel : rt_ft 439 221 = some (15, 61))
theorem wf_439_224 : rx_ft (rt_P sc fm) 439 224 = some (15, 62) := (by decide +kernel : rt_ft 439 224 = some (15, 62))
theorem wf_439_697 : rx_ft (rt_P sc fm) 439 697 = some (15, 79) := (by decide +kernel : rt_ft 439 697 = some (15, 79))
theorem wi_439_0 : ri (rt_P sc fm) 439 0 (.aload_n 0) (1) := ri_of (by decide +kernel) rfl
theorem wi_439_1 : ri (rt_P sc fm) 439 1 (.aload_n 0) (2) := ri_of (by decide +kernel) rfl
theorem wi_439_10 : ri (rt_P sc fm) 439 10 (.istore_n 2) (11) := ri_of (by decide +kernel) rfl
theorem wi_439_100 : ri (rt_P sc fm) 439 100 (.istore 5) (102) := ri_of (by decide +kernel) rfl
theorem wi_439_102 : ri (rt_P sc fm) 439 102 (.iload 5) (104) := ri_of (by decide +kernel) rfl
theorem wi_439_104 : ri (rt_P sc fm) 439 104 (.aload_n 0) (105) := ri_of (by decide +kernel) rfl
theorem wi_439_105 : ri (rt_P sc fm) 439 105 (.getfield 122) (108) := ri_of (by decide +kernel) rfl
theorem wi_439_108 : ri (rt_P sc fm) 439 108 (.iload_n 3) (109) := ri_of (by decide +kernel) rfl
theorem wi_439_109 : ri (rt_P sc fm) 439 109 (.iaload) (110) := ri_of (by decide +kernel) rfl
theorem wi_439_11 : ri (rt_P sc fm) 439 11 (.aload_n 0) (12) := ri_of (by decide +kernel) rfl
theorem wi_439_110 : ri (rt_P sc fm) 439 110 (.if_icmp .ge 110) (113) := ri_of (by decide +kernel) rfl
theorem wi_439_113 : ri (rt_P sc fm) 439 113 (.aload_n 0) (114) := ri_of (by decide +kernel) rfl
theorem wi_439_114 : ri (rt_P sc fm) 439 114 (.iload_n 1) (115) := ri_of (by decide +kernel) rfl
theorem wi_439_115 : ri (rt_P sc fm) 439 115 (.aload_n 0) (116) := ri_of (by decide +kernel) rfl
theorem wi_439_116 : ri (rt_P sc fm) 439 116 (.getfield 125) (119) := ri_of (by decide +kernel) rfl
theorem wi_439_119 : ri (rt_P sc fm) 439 119 (.iconst 4) (120) := ri_of (by decide +kernel) rfl
theorem wi_439_12 : ri (rt_P sc fm) 439 12 (.ldc_w 763) (15) := ri_of (by decide +kernel) rfl
theorem wi_439_120 : ri (rt_P sc fm) 439 120 (.iload_n 3) (121) := ri_of (by decide +kernel) rfl
theorem wi_439_121 : ri (rt_P sc fm) 439 121 (.imul) (122) := ri_of (by decide +kernel) rfl
theorem wi_439_122 : ri (rt_P sc fm) 439 122 (.iload 5) (124) := ri_of (by decide +kernel) rfl
theorem wi_439_124 : ri (rt_P sc fm) 439 124 (.iadd) (125) := ri_of (by decide +kernel) rfl
theorem wi_439_125 : ri (rt_P sc fm) 439 125 (.laload) (126) := ri_of (by decide +kernel) rfl
theorem wi_439_126 : ri (rt_P sc fm) 439 126 (.invokevirtual 770) (129) := ri_of (by decide +kernel) rfl
theorem wi_439_129 : ri (rt_P sc fm) 439 129 (.ifCond .ne 6) (132) := ri_of (by decide +kernel) rfl
theorem wi_439_132 : ri (rt_P sc fm) 439 132 (.goto 82) (135) := ri_of (by decide +kernel) rfl
theorem wi_439_135 : ri (rt_P sc fm) 439 135 (.aload_n 0) (136) := ri_of (by decide +kernel) rfl
theorem wi_439_136 : ri (rt_P sc fm) 439 136 (.iload 4) (138) := ri_of (by decide +kernel) rfl
theorem wi_439_138 : ri (rt_P sc fm) 439 138 (.ifCond .eq 9) (141) := ri_of (by decide +kernel) rfl
theorem wi_439_141 : ri (rt_P sc fm) 439 141 (.ldc_w 774) (144) := ri_of (by decide +kernel) rfl
theorem wi_439_144 : ri (rt_P sc fm) 439 144 (.goto 6) (147) := ri_of (by decide +kernel) rfl
theorem wi_439_147 : ri (rt_P sc fm) 439 147 (.ldc_w 776) (150) := ri_of (by decide +kernel) rfl
theorem wi_439_15 : ri (rt_P sc fm) 439 15 (.invokevirtual 402) (18) := ri_of (by decide +kernel) rfl
theorem wi_439_150 : ri (rt_P sc fm) 439 150 (.invokevirtual 402) (153) := ri_of (by decide +kernel) rfl
theorem wi_439_153 : ri (rt_P sc fm) 439 153 (.iconst 1) (154) := ri_of (by decide +kernel) rfl
theorem wi_439_154 : ri (rt_P sc fm) 439 154 (.istore 4) (156) := ri_of (by decide +kernel) rfl
theorem wi_439_156 : ri (rt_P sc fm) 439 156 (.aload_n 0) (157) := ri_of (by decide +kernel) rfl
theorem wi_439_157 : ri (rt_P sc fm) 439 157 (.aload_n 0) (158) := ri_of (by decide +kernel) rfl
theorem wi_439_158 : ri (rt_P sc fm) 439 158 (.getfield 125) (161) := ri_of (by decide +kernel) rfl
theorem wi_439_161 : ri (rt_P sc fm) 439 161 (.iconst 4) (162) := ri_of (by decide +kernel) rfl
theorem wi_439_162 : ri (rt_P sc fm) 439 162 (.iload_n 3) (163) := ri_of (by decide +kernel) rfl
theorem wi_439_163 : ri (rt_P sc fm) 439 163 (.imul) (164) := ri_of (by decide +kernel) rfl
theorem wi_439_164 : ri (rt_P sc fm) 439 164 (.iload 5) (166) := ri_of (by decide +kernel) rfl
theorem wi_439_166 : ri (rt_P sc fm) 439 166 (.iadd) (167) := ri_of (by decide +kernel) rfl
theorem wi_439_167 : ri (rt_P sc fm) 439 167 (.laload) (168) := ri_of (by decide +kernel) rfl
theorem wi_439_168 : ri (rt_P sc fm) 439 168 (.invokevirtual 765) (171) := ri_of (by decide +kernel) rfl
theorem wi_439_171 : ri (rt_P sc fm) 439 171 (.aload_n 0) (172) := ri_of (by decide +kernel) rfl
theorem wi_439_172 : ri (rt_P sc fm) 439 172 (.ldc_w 778) (175) := ri_of (by decide +kernel) rfl
theorem wi_439_175 : ri (rt_P sc fm) 439 175 (.invokevirtual 402) (178) := ri_of (by decide +kernel) rfl
theorem wi_439_178 : ri (rt_P sc fm) 439 178 (.aload_n 0) (179) := ri_of (by decide +kernel) rfl
theorem wi_439_179 : ri (rt_P sc fm) 439 179 (.iload_n 1) (180) := ri_of (by decide +kernel) rfl
theorem wi_439_18 : ri (rt_P sc fm) 439 18 (.aload_n 0) (19) := ri_of (by decide +kernel) rfl
theorem wi_439_180 : ri (rt_P sc fm) 439 180 (.iload_n 3) (181) := ri_of (by decide +kernel) rfl
theorem wi_439_181 : ri (rt_P sc fm) 439 181 (.iload 5) (183) := ri_of (by decide +kernel) rfl
theorem wi_439_183 : ri (rt_P sc fm) 439 183 (.invokevirtual 706) (186) := ri_of (by decide +kernel) rfl
theorem wi_439_186 : ri (rt_P sc fm) 439 186 (.istore 6) (188) := ri_of (by decide +kernel) rfl
theorem wi_439_188 : ri (rt_P sc fm) 439 188 (.iload 6) (190) := ri_of (by decide +kernel) rfl
theorem wi_439_19 : ri (rt_P sc fm) 439 19 (.getfield 224) (22) := ri_of (by decide +kernel) rfl
theorem wi_439_190 : ri (rt_P sc fm) 439 190 (.iconst 2) (191) := ri_of (by decide +kernel) rfl
theorem wi_439_191 : ri (rt_P sc fm) 439 191 (.if_icmp .ne 14) (194) := ri_of (by decide +kernel) rfl
theorem wi_439_194 : ri (rt_P sc fm) 439 194 (.aload_n 0) (195) := ri_of (by decide +kernel) rfl
theorem wi_439_195 : ri (rt_P sc fm) 439 195 (.aload_n 0) (196) := ri_of (by decide +kernel) rfl
theorem wi_439_196 : ri (rt_P sc fm) 439 196 (.getfield 697) (199) := ri_of (by decide +kernel) rfl
theorem wi_439_199 : ri (rt_P sc fm) 439 199 (.invokevirtual 780) (202) := ri_of (by decide +kernel) rfl
theorem wi_439_2 : ri (rt_P sc fm) 439 2 (.getfield 221) (5) := ri_of (by decide +kernel) rfl
theorem wi_439_202 : ri (rt_P sc fm) 439 202 (.goto 12) (205) := ri_of (by decide +kernel) rfl
theorem wi_439_205 : ri (rt_P sc fm) 439 205 (.aload_n 0) (206) := ri_of (by decide +kernel) rfl
theorem wi_439_206 : ri (rt_P sc fm) 439 206 (.aload_n 0) (207) := ri_of (by decide +kernel) rfl
theorem wi_439_207 : ri (rt_P sc fm) 439 207 (.getfield 697) (210) := ri_of (by decide +kernel) rfl
theorem wi_439_210 : ri (rt_P sc fm) 439 210 (.l2i) (211) := ri_of (by decide +kernel) rfl
theorem wi_439_211 : ri (rt_P sc fm) 439 211 (.invokevirtual 783) (214) := ri_of (by decide +kernel) rfl
theorem wi_439_214 : ri (rt_P sc fm) 439 214 (.iinc 5 1) (217) := ri_of (by decide +kernel) rfl
theorem wi_439_217 : ri (rt_P sc fm) 439 217 (.goto (-115)) (220) := ri_of (by decide +kernel) rfl
theorem wi_439_22 : ri (rt_P sc fm) 439 22 (.iload_n 1) (23) := ri_of (by decide +kernel) rfl
theorem wi_439_220 : ri (rt_P sc fm) 439 220 (.iload 4) (222) := ri_of (by decide +kernel) rfl
theorem wi_439_222 : ri (rt_P sc fm) 439 222 (.ifCond .eq 10) (225) := ri_of (by decide +kernel) rfl
theorem wi_439_225 : ri (rt_P sc fm) 439 225 (.aload_n 0) (226) := ri_of (by decide +kernel) rfl
theorem wi_439_226 : ri (rt_P sc fm) 439 226 (.ldc_w 786) (229) := ri_of (by decide +kernel) rfl
theorem wi_439_229 : ri (rt_P sc fm) 439 229 (.invokevirtual 402) (232) := ri_of (by decide +kernel) rfl
theorem wi_439_23 : ri (rt_P sc fm) 439 23 (.baload) (24) := ri_of (by decide +kernel) rfl
theorem wi_439_232 : ri (rt_P sc fm) 439 232 (.return_) (233) := ri_of (by decide +kernel) rfl
theorem wi_439_24 : ri (rt_P sc fm) 439 24 (.ifCond .eq 9) (27) := ri_of (by decide +kernel) rfl
theorem wi_439_27 : ri (rt_P sc fm) 439 27 (.aload_n 0) (28) := ri_of (by decide +kernel) rfl
theorem wi_439_28 : ri (rt_P sc fm) 439 28 (.ldc 40) (30) := ri_of (by decide +kernel) rfl
theorem wi_439_30 : ri (rt_P sc fm) 439 30 (.invokevirtual 402) (33) := ri_of (by decide +kernel) rfl
theorem wi_439_33 : ri (rt_P sc fm) 439 33 (.aload_n 0) (34) := ri_of (by decide +kernel) rfl
theorem wi_439_34 : ri (rt_P sc fm) 439 34 (.aload_n 0) (35) := ri_of (by decide +kernel) rfl
theorem wi_439_35 : ri (rt_P sc fm) 439 35 (.getfield 221) (38) := ri_of (by decide +kernel) rfl
theorem wi_439_38 : ri (rt_P sc fm) 439 38 (.iload_n 1) (39) := ri_of (by decide +kernel) rfl
theorem wi_439_39 : ri (rt_P sc fm) 439 39 (.laload) (40) := ri_of (by decide +kernel) rfl
theorem wi_439_40 : ri (rt_P sc fm) 439 40 (.invokevirtual 765) (43) := ri_of (by decide +kernel) rfl
theorem wi_439_43 : ri (rt_P sc fm) 439 43 (.aload_n 0) (44) := ri_of (by decide +kernel) rfl
theorem wi_439_44 : ri (rt_P sc fm) 439 44 (.getfield 224) (47) := ri_of (by decide +kernel) rfl
theorem wi_439_47 : ri (rt_P sc fm) 439 47 (.iload_n 1) (48) := ri_of (by decide +kernel) rfl
theorem wi_439_48 : ri (rt_P sc fm) 439 48 (.baload) (49) := ri_of (by decide +kernel) rfl
theorem wi_439_49 : ri (rt_P sc fm) 439 49 (.ifCond .eq 4) (52) := ri_of (by decide +kernel) rfl
theorem wi_439_5 : ri (rt_P sc fm) 439 5 (.iload_n 1) (6) := ri_of (by decide +kernel) rfl
theorem wi_439_52 : ri (rt_P sc fm) 439 52 (.return_) (53) := ri_of (by decide +kernel) rfl
theorem wi_439_53 : ri (rt_P sc fm) 439 53 (.iload_n 2) (54) := ri_of (by decide +kernel) rfl
theorem wi_439_54 : ri (rt_P sc fm) 439 54 (.ifCond .lt 31) (57) := ri_of (by decide +kernel) rfl
theorem wi_439_57 : ri (rt_P sc fm) 439 57 (.aload_n 0) (58) := ri_of (by decide +kernel) rfl
theorem wi_439_58 : ri (rt_P sc fm) 439 58 (.ldc_w 768) (61) := ri_of (by decide +kernel) rfl
theorem wi_439_6 : ri (rt_P sc fm) 439 6 (.laload) (7) := ri_of (by decide +kernel) rfl
theorem wi_439_61 : ri (rt_P sc fm) 439 61 (.invokevirtual 402) (64) := ri_of (by decide +kernel) rfl
theorem wi_439_64 : ri (rt_P sc fm) 439 64 (.aload_n 0) (65) := ri_of (by decide +kernel) rfl
theorem wi_439_65 : ri (rt_P sc fm) 439 65 (.aload_n 0) (66) := ri_of (by decide +kernel) rfl
theorem wi_439_66 : ri (rt_P sc fm) 439 66 (.getfield 100) (69) := ri_of (by decide +kernel) rfl
theorem wi_439_69 : ri (rt_P sc fm) 439 69 (.bipush 12) (71) := ri_of (by decide +kernel) rfl
theorem wi_439_7 : ri (rt_P sc fm) 439 7 (.invokevirtual 459) (10) := ri_of (by decide +kernel) rfl
theorem wi_439_71 : ri (rt_P sc fm) 439 71 (.iload_n 2) (72) := ri_of (by decide +kernel) rfl
theorem wi_439_72 : ri (rt_P sc fm) 439 72 (.imul) (73) := ri_of (by decide +kernel) rfl
theorem wi_439_73 : ri (rt_P sc fm) 439 73 (.aload_n 0) (74) := ri_of (by decide +kernel) rfl
theorem wi_439_74 : ri (rt_P sc fm) 439 74 (.iload_n 1) (75) := ri_of (by decide +kernel) rfl
theorem wi_439_75 : ri (rt_P sc fm) 439 75 (.iload_n 2) (76) := ri_of (by decide +kernel) rfl
theorem wi_439_76 : ri (rt_P sc fm) 439 76 (.invokevirtual 700) (79) := ri_of (by decide +kernel) rfl
theorem wi_439_79 : ri (rt_P sc fm) 439 79 (.iadd) (80) := ri_of (by decide +kernel) rfl
theorem wi_439_80 : ri (rt_P sc fm) 439 80 (.laload) (81) := ri_of (by decide +kernel) rfl
theorem wi_439_81 : ri (rt_P sc fm) 439 81 (.invokevirtual 765) (84) := ri_of (by decide +kernel) rfl
theorem wi_439_84 : ri (rt_P sc fm) 439 84 (.return_) (85) := ri_of (by decide +kernel) rfl
theorem wi_439_85 : ri (rt_P sc fm) 439 85 (.aload_n 0) (86) := ri_of (by decide +kernel) rfl
theorem wi_439_86 : ri (rt_P sc fm) 439 86 (.aload_n 0) (87) := ri_of (by decide +kernel) rfl
theorem wi_439_87 : ri (rt_P sc fm) 439 87 (.getfield 221) (90) := ri_of (by decide +kernel) rfl
theorem wi_439_90 : ri (rt_P sc fm) 439 90 (.iload_n 1) (91) := ri_of (by decide +kernel) rfl
theorem wi_439_91 : ri (rt_P sc fm) 439 91 (.laload) (92) := ri_of (by decide +kernel) rfl
theorem wi_439_92 : ri (rt_P sc fm) 439 92 (.invokevirtual 462) (95) := ri_of (by decide +kernel) rfl
theorem wi_439_95 : ri (rt_P sc fm) 439 95 (.istore_n 3) (96) := ri_of (by decide +kernel) rfl
theorem wi_439_96 : ri (rt_P sc fm) 439 96 (.iconst 0) (97) := ri_of (by decide +kernel) rfl
theorem wi_439_97 : ri (rt_P sc fm) 439 97 (.istore 4) (99) := ri_of (by decide +kernel) rfl
theorem wi_439_99 : ri (rt_P sc fm) 439 99 (.iconst 0) (100) := ri_of (by decide +kernel) rfl
theorem wk_439_40 : rx_kt (rt_P sc fm) 439 40 = some (.ref (rx_K 13)) := (by decide +kernel : rt_kt 439 40 = some (.ref (rx_K 13)))
theorem wk_439_763 : rx_kt (rt_P sc fm) 439 763 = some (.ref (rx_K 49)) := (by decide +kernel : rt_kt 439 763 = some (.ref (rx_K 49)))
theorem wk_439_768 : rx_kt (rt_P sc fm) 439 768 = some (.ref (rx_K 50)) := (by decide +kernel : rt_kt 439 768 = some (.ref (rx_K 50)))
theorem wk_439_774 : rx_kt (rt_P sc fm) 439 774 = some (.ref (rx_K 51)) := (by decide +kernel : rt_kt 439 774 = some (.ref (rx_K 51)))
theorem wk_439_776 : rx_kt (rt_P sc fm) 439 776 = some (.ref (rx_K 52)) := (by decide +kernel : rt_kt 439 776 = some (.ref (rx_K 52)))
theorem wk_439_778 : rx_kt (rt_P sc fm) 439 778 = some (.ref (rx_K 53)) := (by decide +kernel : rt_kt 439 778 = some (.ref (rx_K 53)))
theorem wk_439_786 : rx_kt (rt_P sc fm) 439 786 = some (.ref (rx_K 54)) := (by decide +kernel : rt_kt 439 786 = some (.ref (rx_K 54)))
theorem wm_365 : rx_ml (rt_P sc fm) 365 = 2 := (by decide +kernel : rt_ml 365 = 2)
theorem wm_366 : rx_ml (rt_P sc fm) 366 = 3 := (by decide +kernel : rt_ml 366 = 3)
theorem wm_440 : rx_ml (rt_P sc fm) 440 = 6 := (by decide +kernel : rt_ml 440 = 6)
theorem wr_439 : rx_rt (rt_P sc fm) 439 = none := (by decide +kernel : rt_rt 439 = none)
/-- MarkHouseModel.sayMark(I)V -/
def d_439 (n : Nat) (a1 : Int32) (c : cS) : Option (cS) :=
  if ib a1 24380 then
  Option.bind (d_372 n (c.2 223 (ix a1)) c) (fun v2 =>
  Option.bind (d_362 n 49 c) (fun r4 =>
  if ib a1 24380 then
  jn (fun p6 : cS =>
    if ib a1 24380 then
    Option.bind (d_363 n (p6.2 223 (ix a1)) p6) (fun r8 =>
    if ib a1 24380 then
    if (r8.1 224 (ix a1)) = 0 then
      if v2 < 0 then
        if ib a1 24380 then
        Option.bind (d_373 n (r8.2 223 (ix a1)) r8) (fun v11 =>
        Option.bind (whl (R := (Int32 × cS)) (fun s15 : Int32 × Int32 × cS =>
          if ib v11 12 then
          if (s15.2.2.1 190 (ix v11)) ≤ s15.2.1 then
            some (.inr (s15.1, s15.2.2))
          else
            if ib ((4 * v11) + s15.2.1) 48 then
            Option.bind (d_440 n a1 (s15.2.2.2 191 (ix ((4 * v11) + s15.2.1))) s15.2.2) (fun v18 =>
            jn (fun p19 : Int32 × cS =>
              lt (s15.2.1 + 1 : Int32) (fun v21 =>
              some (.inl (p19.1, v21, p19.2))))
            (fun j214 =>
            if v18 = 0 then
              j214 (s15.1, s15.2.2)
            else
              jn (fun p23 : Nat =>
                Option.bind (d_362 n p23 s15.2.2) (fun r24 =>
                if ib ((4 * v11) + s15.2.1) 48 then
                Option.bind (d_363 n (r24.2 191 (ix ((4 * v11) + s15.2.1))) r24) (fun r27 =>
                Option.bind (d_362 n 53 r27) (fun r28 =>
                Option.bind (d_429 n a1 v11 s15.2.1 r28) (fun r29 =>
                if r29.1 = 2 then
                  Option.bind (d_366 n (r29.2.2 174 79) r29.2) (fun r32 =>
                  j214 (1, r32))
                else
                  Option.bind (d_365 n (((r29.2.2 174 79) : Int64).toInt32) r29.2) (fun r31 =>
                  j214 (1, r31)))))
                else none))
              (fun j150 =>
              if s15.1 = 0 then
                j150 52
              else
                j150 51)))
            else none
          else none) n (0, 0, r8))
        (fun x33 : Int32 × cS =>
          jn (fun p34 : cS =>
            some p34)
          (fun j232 =>
          if x33.1 = 0 then
            j232 x33.2
          else
            Option.bind (d_362 n 54 x33.2) (fun r35 =>
            j232 r35))))
        else none
      else
        Option.bind (d_362 n 50 r8) (fun r36 =>
        Option.bind (d_430 n a1 v2 r36) (fun v37 =>
        if ib ((12 * v2) + v37) 48 then
        Option.bind (d_363 n (r36.2 183 (ix ((12 * v2) + v37))) r36) (fun r39 =>
        some r39)
        else none))
    else
      some r8
    else none)
    else none)
  (fun j33 =>
  if (r4.1 224 (ix a1)) = 0 then
    j33 r4
  else
    Option.bind (d_362 n 13 r4) (fun r40 =>
    j33 r40))
  else none))
  else none
theorem sp_439 {F Lo n : Nat} {a1 : Int32} {c y : cS} {w : cW} {K : cS → Prop} {Q : ((Option Value) ⊕ String) → List va_E → Prop} (hw : rOK fm w) (hF : 6 ≤ F) (hLo : 128 ≤ Lo)  (h : wp (d_439 n a1 c) K) (hQ : ∀ r, K r → Q (.inl none) (hq false r y w)) : rs (rt_P sc fm) 439 F Lo 0 [(0, .ref 174), (1, .int a1)] [] (hq false c y w) Q := by
  unfold d_439 at h
  obtain ⟨lv, elv⟩ : ∃ lv : rx_L, lv = [(0, .ref 174), (1, .int a1)] := ⟨_, rfl⟩
  rw [← elv]
  have l0 : rx_ld lv 0 = some (.ref 174) := by rw [elv]; rfl
  have l1 : rx_ld lv 1 = some (.int a1) := by rw [elv]; rfl
  refine rs_aldn wi_439_0 l0 ?_
  refine rs_aldn wi_439_1 l0 ?_
  refine dq_gr wi_439_2 wf_439_221 tf_174_61 ?_
  refine rs_ildn wi_439_5 l1 ?_
  obtain ⟨g1, h⟩ := wp_gd h
  refine dq_lald wi_439_6 t_223 g1 ?_
  refine rs_V wi_439_7 wc_439_459 rfl (dq_isa tf_174_0 wa_15_372) (Nat.le_trans (by decide) hF) (ml_le wm_372 (Nat.le_trans (by decide) hLo)) rfl (sp_372 hw (Nat.le_trans (by decide : 0 ≤ 6 - 1) (Nat.sub_le_sub_right hF 1)) (ml_sub wm_372 (Nat.le_trans (by decide : 0 ≤ 128 - 23) (Nat.sub_le_sub_right hLo 23))) (wp_bind h) (fun v2 h => rs_back1 ?_))
  refine dl_istn wi_439_10 rfl (fun lv l2 t3 => ?_)
  have l0 := t3 _ _ (by decide) (Or.inl rfl) l0
  have l1 := t3 _ _ (by decide) (Or.inl rfl) l1
  refine rs_aldn wi_439_11 l0 ?_
  refine rs_ldcwS wi_439_12 wk_439_763 ?_
  refine rs_V wi_439_15 wc_439_402 rfl (dq_isa tf_174_0 wa_15_362) (Nat.le_trans (by decide) hF) (ml_le wm_362 (Nat.le_trans (by decide) hLo)) rfl (sp_362 hw (Nat.le_trans (by decide : 4 ≤ 6 - 1) (Nat.sub_le_sub_right hF 1)) (ml_sub wm_362 (Nat.le_trans (by decide : 85 ≤ 128 - 22) (Nat.sub_le_sub_right hLo 22))) (by decide +kernel) (wp_bind h) (fun r4 h => rs_back0 ?_))
  refine rs_aldn wi_439_18 l0 ?_
  refine dq_gr wi_439_19 wf_439_224 tf_174_62 ?_
  refine rs_ildn wi_439_22 l1 ?_
  obtain ⟨g5, h⟩ := wp_gd h
  refine dq_zald wi_439_23 t_224 g5 ?_
  refine wp_jn (B := fun p6 : cS => ∀ lv, rx_ld lv 0 = some (.ref 174) → rx_ld lv 1 = some (.int a1) → rx_ld lv 2 = some (.int v2) → rs (rt_P sc fm) 439 F Lo 33 lv [] (hq false p6 y w) Q) h (fun p6 h lv l0 l1 l2 => ?_) (fun j33 hj33 h => ?_)
  ·
    refine rs_aldn wi_439_33 l0 ?_
    refine rs_aldn wi_439_34 l0 ?_
    refine dq_gr wi_439_35 wf_439_221 tf_174_61 ?_
    refine rs_ildn wi_439_38 l1 ?_
    obtain ⟨g7, h⟩ := wp_gd h
    refine dq_lald wi_439_39 t_223 g7 ?_
    refine rs_V wi_439_40 wc_439_765 rfl (dq_isa tf_174_0 wa_15_363) (Nat.le_trans (by decide) hF) (ml_le wm_363 (Nat.le_trans (by decide) hLo)) rfl (sp_363 hw (Nat.le_trans (by decide : 2 ≤ 6 - 1) (Nat.sub_le_sub_right hF 1)) (ml_sub wm_363 (Nat.le_trans (by decide : 44 ≤ 128 - 22) (Nat.sub_le_sub_right hLo 22))) (wp_bind h) (fun r8 h => rs_back0 ?_))
    refine rs_aldn wi_439_43 l0 ?_
    refine dq_gr wi_439_44 wf_439_224 tf_174_62 ?_
    refine rs_ildn wi_439_47 l1 ?_
    obtain ⟨g9, h⟩ := wp_gd h
    refine dq_zald wi_439_48 t_224 g9 ?_
    refine rs_ifeq (tg := 53) wi_439_49 ⟨by decide, by decide⟩ (fun q => ?_) (fun q => ?_)
    ·
      have h := wp_pos h q
      refine rs_ildn wi_439_53 l2 ?_
      refine rs_iflt (tg := 85) wi_439_54 ⟨by decide, by decide⟩ (fun q => ?_) (fun q => ?_)
      ·
        have h := wp_pos h q
        refine rs_aldn wi_439_85 l0 ?_
        refine rs_aldn wi_439_86 l0 ?_
        refine dq_gr wi_439_87 wf_439_221 tf_174_61 ?_
        refine rs_ildn wi_439_90 l1 ?_
        obtain ⟨g10, h⟩ := wp_gd h
        refine dq_lald wi_439_91 t_223 g10 ?_
        refine rs_V wi_439_92 wc_439_462 rfl (dq_isa tf_174_0 wa_15_373) (Nat.le_trans (by decide) hF) (ml_le wm_373 (Nat.le_trans (by decide) hLo)) rfl (sp_373 hw (Nat.le_trans (by decide : 0 ≤ 6 - 1) (Nat.sub_le_sub_right hF 1)) (ml_sub wm_373 (Nat.le_trans (by decide : 0 ≤ 128 - 23) (Nat.sub_le_sub_right hLo 23))) (wp_bind h) (fun v11 h => rs_back1 ?_))
        refine dl_istn wi_439_95 rfl (fun lv l3 t12 => ?_)
        have l0 := t12 _ _ (by decide) (Or.inl rfl) l0
        have l1 := t12 _ _ (by decide) (Or.inl rfl) l1
        refine rs_pure wi_439_96 rfl ?_
        refine rs_topi (v := 0) (by decide) ?_
        refine dl_ist wi_439_97 rfl (fun lv l4 t13 => ?_)
        have l0 := t13 _ _ (by decide) (Or.inl rfl) l0
        have l1 := t13 _ _ (by decide) (Or.inl rfl) l1
        have l3 := t13 _ _ (by decide) (Or.inl rfl) l3
        refine rs_pure wi_439_99 rfl ?_
        refine rs_topi (v := 0) (by decide) ?_
        refine dl_ist wi_439_100 rfl (fun lv l5 t14 => ?_)
        have l0 := t14 _ _ (by decide) (Or.inl rfl) l0
        have l1 := t14 _ _ (by decide) (Or.inl rfl) l1
        have l3 := t14 _ _ (by decide) (Or.inl rfl) l3
        have l4 := t14 _ _ (by decide) (Or.inl rfl) l4
        refine whl_ex (A := fun s15 : Int32 × Int32 × cS => ∀ lv, rx_ld lv 0 = some (.ref 174) → rx_ld lv 1 = some (.int a1) → rx_ld lv 3 = some (.int v11) → rx_ld lv 4 = some (.int s15.1) → rx_ld lv 5 = some (.int s15.2.1) → rs (rt_P sc fm) 439 F Lo 102 lv [] (hq false s15.2.2 y w) Q) (B := (fun x33 : Int32 × cS => ∀ lv, rx_ld lv 0 = some (.ref 174) → rx_ld lv 4 = some (.int x33.1) → rs (rt_P sc fm) 439 F Lo 220 lv [] (hq false x33.2 y w) Q)) ?_ ?_ _ _ (wp_bind h) _ l0 l1 l3 l4 l5
        · intro s15 h lv l0 l1 l3 l4 l5
          refine rs_ild wi_439_102 l5 ?_
          refine rs_aldn wi_439_104 l0 ?_
          refine dq_gr wi_439_105 wf_439_122 tf_174_26 ?_
          refine rs_ildn wi_439_108 l3 ?_
          obtain ⟨g16, h⟩ := wp_gd h
          refine dq_iald wi_439_109 t_190 g16 ?_
          refine rs_icge (tg := 220) wi_439_110 ⟨by decide, by decide⟩ (fun q => ?_) (fun q => ?_)
          ·
            have h := wp_pos h q
            exact h _ l0 l4
          ·
            have h := wp_neg h q
            refine rs_aldn wi_439_113 l0 ?_
            refine rs_ildn wi_439_114 l1 ?_
            refine rs_aldn wi_439_115 l0 ?_
            refine dq_gr wi_439_116 wf_439_125 tf_174_27 ?_
            refine rs_pure wi_439_119 rfl ?_
            refine rs_topi (v := 4) (by decide) ?_
            refine rs_ildn wi_439_120 l3 ?_
            refine rs_pure wi_439_121 rfl ?_
            refine rs_ild wi_439_122 l5 ?_
            refine rs_pure wi_439_124 rfl ?_
            obtain ⟨g17, h⟩ := wp_gd h
            refine dq_lald wi_439_125 t_191 g17 ?_
            refine rs_V wi_439_126 wc_439_770 rfl (dq_isa tf_174_0 wa_15_440) (Nat.le_trans (by decide) hF) (ml_le wm_440 (Nat.le_trans (by decide) hLo)) rfl (sp_440 hw (Nat.le_trans (by decide : 0 ≤ 6 - 1) (Nat.sub_le_sub_right hF 1)) (ml_sub wm_440 (Nat.le_trans (by decide : 0 ≤ 128 - 25) (Nat.sub_le_sub_right hLo 25))) (wp_bind h) (fun v18 h => rs_back1 ?_))
            refine wp_jn (B := fun p19 : Int32 × cS => ∀ lv, rx_ld lv 0 = some (.ref 174) → rx_ld lv 1 = some (.int a1) → rx_ld lv 3 = some (.int v11) → rx_ld lv 4 = some (.int p19.1) → rx_ld lv 5 = some (.int s15.2.1) → rs (rt_P sc fm) 439 F Lo 214 lv [] (hq false p19.2 y w) Q) h (fun p19 h lv l0 l1 l3 l4 l5 => ?_) (fun j214 hj214 h => ?_)
            ·
              obtain ⟨v21, e22, h⟩ := wp_lt h
              refine dl_inc wi_439_214 l5 rfl e22 (fun lv l5 t20 => ?_)
              have l0 := t20 _ _ (by decide) (Or.inl rfl) l0
              have l1 := t20 _ _ (by decide) (Or.inl rfl) l1
              have l3 := t20 _ _ (by decide) (Or.inl rfl) l3
              have l4 := t20 _ _ (by decide) (Or.inl rfl) l4
              refine rs_goto (tg := 102) wi_439_217 ⟨by decide, by decide⟩ ?_
              exact h _ l0 l1 l3 l4 l5
            refine rs_ifne (tg := 135) wi_439_129 ⟨by decide, by decide⟩ (fun q => ?_) (fun q => ?_)
            ·
              have h := wp_neg h q
              refine rs_aldn wi_439_135 l0 ?_
              refine rs_ild wi_439_136 l4 ?_
              refine wp_jn (B := fun p23 : Nat => ∀ lv, (rt_sb p23).isSome = true → rx_ld lv 0 = some (.ref 174) → rx_ld lv 1 = some (.int a1) → rx_ld lv 3 = some (.int v11) → rx_ld lv 5 = some (.int s15.2.1) → rs (rt_P sc fm) 439 F Lo 150 lv [.ref (rx_K p23), .ref 174] (hq false s15.2.2 y w) Q) h (fun p23 h lv hs150_0 l0 l1 l3 l5 => ?_) (fun j150 hj150 h => ?_)
              ·
                refine rs_V wi_439_150 wc_439_402 rfl (dq_isa tf_174_0 wa_15_362) (Nat.le_trans (by decide) hF) (ml_le wm_362 (Nat.le_trans (by decide) hLo)) rfl (sp_362 hw (Nat.le_trans (by decide : 4 ≤ 6 - 1) (Nat.sub_le_sub_right hF 1)) (ml_sub wm_362 (Nat.le_trans (by decide : 85 ≤ 128 - 22) (Nat.sub_le_sub_right hLo 22))) hs150_0 (wp_bind h) (fun r24 h => rs_back0 ?_))
                refine rs_pure wi_439_153 rfl ?_
                refine rs_topi (v := 1) (by decide) ?_
                refine dl_ist wi_439_154 rfl (fun lv l4 t25 => ?_)
                have l0 := t25 _ _ (by decide) (Or.inl rfl) l0
                have l1 := t25 _ _ (by decide) (Or.inl rfl) l1
                have l3 := t25 _ _ (by decide) (Or.inl rfl) l3
                have l5 := t25 _ _ (by decide) (Or.inl rfl) l5
                refine rs_aldn wi_439_156 l0 ?_
                refine rs_aldn wi_439_157 l0 ?_
                refine dq_gr wi_439_158 wf_439_125 tf_174_27 ?_
                refine rs_pure wi_439_161 rfl ?_
                refine rs_topi (v := 4) (by decide) ?_
                refine rs_ildn wi_439_162 l3 ?_
                refine rs_pure wi_439_163 rfl ?_
                refine rs_ild wi_439_164 l5 ?_
                refine rs_pure wi_439_166 rfl ?_
                obtain ⟨g26, h⟩ := wp_gd h
                refine dq_lald wi_439_167 t_191 g26 ?_
                refine rs_V wi_439_168 wc_439_765 rfl (dq_isa tf_174_0 wa_15_363) (Nat.le_trans (by decide) hF) (ml_le wm_363 (Nat.le_trans (by decide) hLo)) rfl (sp_363 hw (Nat.le_trans (by decide : 2 ≤ 6 - 1) (Nat.sub_le_sub_right hF 1)) (ml_sub wm_363 (Nat.le_trans (by decide : 44 ≤ 128 - 22) (Nat.sub_le_sub_right hLo 22))) (wp_bind h) (fun r27 h => rs_back0 ?_))
                refine rs_aldn wi_439_171 l0 ?_
                refine rs_ldcwS wi_439_172 wk_439_778 ?_
                refine rs_V wi_439_175 wc_439_402 rfl (dq_isa tf_174_0 wa_15_362) (Nat.le_trans (by decide) hF) (ml_le wm_362 (Nat.le_trans (by decide) hLo)) rfl (sp_362 hw (Nat.le_trans (by decide : 4 ≤ 6 - 1) (Nat.sub_le_sub_right hF 1)) (ml_sub wm_362 (Nat.le_trans (by decide : 85 ≤ 128 - 22) (Nat.sub_le_sub_right hLo 22))) (by decide +kernel) (wp_bind h) (fun r28 h => rs_back0 ?_))
                refine rs_aldn wi_439_178 l0 ?_
                refine rs_ildn wi_439_179 l1 ?_
                refine rs_ildn wi_439_180 l3 ?_
                refine rs_ild wi_439_181 l5 ?_
                refine rs_V wi_439_183 wc_439_706 rfl (dq_isa tf_174_0 wa_15_429) (Nat.le_trans (by decide) hF) (ml_le wm_429 (Nat.le_trans (by decide) hLo)) rfl (sp_429 hw (Nat.le_trans (by decide : 0 ≤ 6 - 1) (Nat.sub_le_sub_right hF 1)) (ml_sub wm_429 (Nat.le_trans (by decide : 0 ≤ 128 - 26) (Nat.sub_le_sub_right hLo 26))) (wp_bind h) (fun r29 h => rs_back1 ?_))
                refine dl_ist wi_439_186 rfl (fun lv l6 t30 => ?_)
                have l0 := t30 _ _ (by decide) (Or.inl rfl) l0
                have l1 := t30 _ _ (by decide) (Or.inl rfl) l1
                have l3 := t30 _ _ (by decide) (Or.inl rfl) l3
                have l4 := t30 _ _ (by decide) (Or.inl rfl) l4
                have l5 := t30 _ _ (by decide) (Or.inl rfl) l5
                refine rs_ild wi_439_188 l6 ?_
                refine rs_pure wi_439_190 rfl ?_
                refine rs_topi (v := 2) (by decide) ?_
                refine rs_icne (tg := 205) wi_439_191 ⟨by decide, by decide⟩ (fun q => ?_) (fun q => ?_)
                ·
                  have h := wp_neg h q
                  refine rs_aldn wi_439_205 l0 ?_
                  refine rs_aldn wi_439_206 l0 ?_
                  refine dq_gl wi_439_207 wf_439_697 tf_174_79 ?_
                  refine rs_pure wi_439_210 rfl ?_
                  refine rs_V wi_439_211 wc_439_783 rfl (dq_isa tf_174_0 wa_15_365) (Nat.le_trans (by decide) hF) (ml_le wm_365 (Nat.le_trans (by decide) hLo)) rfl (sp_365 hw (Nat.le_trans (by decide : 5 ≤ 6 - 1) (Nat.sub_le_sub_right hF 1)) (ml_sub wm_365 (Nat.le_trans (by decide : 107 ≤ 128 - 21) (Nat.sub_le_sub_right hLo 21))) (wp_bind h) (fun r31 h => rs_back0 ?_))
                  exact hj214 _ h _ l0 l1 l3 l4 l5
                ·
                  have h := wp_pos h q
                  refine rs_aldn wi_439_194 l0 ?_
                  refine rs_aldn wi_439_195 l0 ?_
                  refine dq_gl wi_439_196 wf_439_697 tf_174_79 ?_
                  refine rs_V wi_439_199 wc_439_780 rfl (dq_isa tf_174_0 wa_15_366) (Nat.le_trans (by decide) hF) (ml_le wm_366 (Nat.le_trans (by decide) hLo)) rfl (sp_366 hw (Nat.le_trans (by decide : 2 ≤ 6 - 1) (Nat.sub_le_sub_right hF 1)) (ml_sub wm_366 (Nat.le_trans (by decide : 44 ≤ 128 - 22) (Nat.sub_le_sub_right hLo 22))) (wp_bind h) (fun r32 h => rs_back0 ?_))
                  refine rs_goto (tg := 214) wi_439_202 ⟨by decide, by decide⟩ ?_
                  exact hj214 _ h _ l0 l1 l3 l4 l5
              refine rs_ifeq (tg := 147) wi_439_138 ⟨by decide, by decide⟩ (fun q => ?_) (fun q => ?_)
              ·
                have h := wp_pos h q
                refine rs_ldcwS wi_439_147 wk_439_776 ?_
                exact hj150 _ h _ (by decide +kernel) l0 l1 l3 l5
              ·
                have h := wp_neg h q
                refine rs_ldcwS wi_439_141 wk_439_774 ?_
                refine rs_goto (tg := 150) wi_439_144 ⟨by decide, by decide⟩ ?_
                exact hj150 _ h _ (by decide +kernel) l0 l1 l3 l5
            ·
              have h := wp_pos h q
              refine rs_goto (tg := 214) wi_439_132 ⟨by decide, by decide⟩ ?_
              exact hj214 _ h _ l0 l1 l3 l4 l5
        ·
          intro x33 h lv l0 l4
          refine rs_ild wi_439_220 l4 ?_
          refine wp_jn (B := fun p34 : cS => ∀ lv, rs (rt_P sc fm) 439 F Lo 232 lv [] (hq false p34 y w) Q) h (fun p34 h lv => ?_) (fun j232 hj232 h => ?_)
          ·
            exact rs_vret wi_439_232 wr_439 (hQ p34 h)
          refine rs_ifeq (tg := 232) wi_439_222 ⟨by decide, by decide⟩ (fun q => ?_) (fun q => ?_)
          ·
            have h := wp_pos h q
            exact hj232 _ h _
          ·
            have h := wp_neg h q
            refine rs_aldn wi_439_225 l0 ?_
            refine rs_ldcwS wi_439_226 wk_439_786 ?_
            refine rs_V wi_439_229 wc_439_402 rfl (dq_isa tf_174_0 wa_15_362) (Nat.le_trans (by decide) hF) (ml_le wm_362 (Nat.le_trans (by decide) hLo)) rfl (sp_362 hw (Nat.le_trans (by decide : 4 ≤ 6 - 1) (Nat.sub_le_sub_right hF 1)) (ml_sub wm_362 (Nat.le_trans (by decide : 85 ≤ 128 - 22) (Nat.sub_le_sub_right hLo 22))) (by decide +kernel) (wp_bind h) (fun r35 h => rs_back0 ?_))
            exact hj232 _ h _
      ·
        have h := wp_neg h q
        refine rs_aldn wi_439_57 l0 ?_
        refine rs_ldcwS wi_439_58 wk_439_768 ?_
        refine rs_V wi_439_61 wc_439_402 rfl (dq_isa tf_174_0 wa_15_362) (Nat.le_trans (by decide) hF) (ml_le wm_362 (Nat.le_trans (by decide) hLo)) rfl (sp_362 hw (Nat.le_trans (by decide : 4 ≤ 6 - 1) (Nat.sub_le_sub_right hF 1)) (ml_sub wm_362 (Nat.le_trans (by decide : 85 ≤ 128 - 22) (Nat.sub_le_sub_right hLo 22))) (by decide +kernel) (wp_bind h) (fun r36 h => rs_back0 ?_))
        refine rs_aldn wi_439_64 l0 ?_
        refine rs_aldn wi_439_65 l0 ?_
        refine dq_gr wi_439_66 wf_439_100 tf_174_18 ?_
        refine rs_pure wi_439_69 rfl ?_
        refine rs_topi (v := 12) (by decide) ?_
        refine rs_ildn wi_439_71 l2 ?_
        refine rs_pure wi_439_72 rfl ?_
        refine rs_aldn wi_439_73 l0 ?_
        refine rs_ildn wi_439_74 l1 ?_
        refine rs_ildn wi_439_75 l2 ?_
        refine rs_V wi_439_76 wc_439_700 rfl (dq_isa tf_174_0 wa_15_430) (Nat.le_trans (by decide) hF) (ml_le wm_430 (Nat.le_trans (by decide) hLo)) rfl (sp_430 hw (Nat.le_trans (by decide : 1 ≤ 6 - 1) (Nat.sub_le_sub_right hF 1)) (ml_sub wm_430 (Nat.le_trans (by decide : 24 ≤ 128 - 25) (Nat.sub_le_sub_right hLo 25))) (wp_bind h) (fun v37 h => rs_back1 ?_))
        refine rs_pure wi_439_79 rfl ?_
        obtain ⟨g38, h⟩ := wp_gd h
        refine dq_lald wi_439_80 t_183 g38 ?_
        refine rs_V wi_439_81 wc_439_765 rfl (dq_isa tf_174_0 wa_15_363) (Nat.le_trans (by decide) hF) (ml_le wm_363 (Nat.le_trans (by decide) hLo)) rfl (sp_363 hw (Nat.le_trans (by decide : 2 ≤ 6 - 1) (Nat.sub_le_sub_right hF 1)) (ml_sub wm_363 (Nat.le_trans (by decide : 44 ≤ 128 - 22) (Nat.sub_le_sub_right hLo 22))) (wp_bind h) (fun r39 h => rs_back0 ?_))
        exact rs_vret wi_439_84 wr_439 (hQ r39 h)
    ·
      have h := wp_neg h q
      exact rs_vret wi_439_52 wr_439 (hQ r8 h)
  refine rs_ifeq (tg := 33) wi_439_24 ⟨by decide, by decide⟩ (fun q => ?_) (fun q => ?_)
  ·
    have h := wp_pos h q
    exact hj33 _ h _ l0 l1 l2
  ·
    have h := wp_neg h q
    refine rs_aldn wi_439_27 l0 ?_
    refine rs_ldcS wi_439_28 wk_439_40 ?_
    refine rs_V wi_439_30 wc_439_402 rfl (dq_isa tf_174_0 wa_15_362) (Nat.le_trans (by decide) hF) (ml_le wm_362 (Nat.le_trans (by decide) hLo)) rfl (sp_362 hw (Nat.le_trans (by decide : 4 ≤ 6 - 1) (Nat.sub_le_sub_right hF 1)) (ml_sub wm_362 (Nat.le_trans (by decide : 85 ≤ 128 - 22) (Nat.sub_le_sub_right hLo 22))) (by decide +kernel) (wp_bind h) (fun r40 h => rs_back0 ?_))
    exact hj33 _ h _ l0 l1 l2
theorem wa_15_439 : rz_cn 15 (rx_yn (rt_P sc fm) 439).cls = true := (by decide +kernel : rz_cn 15 (rt_yn 439).cls = true)
theorem wa_15_441 : rz_cn 15 (rx_yn (rt_P sc fm) 441).cls = true := (by decide +kernel : rz_cn 15 (rt_yn 441).cls = true)
theorem wc_442_543 : rx_ct (rt_P sc fm) 442 543 = some (0, 392, 2) := (by decide +kernel : rt_ct 442 543 = some (0, 392, 2))
theorem wc_442_667 : rx_ct (rt_P sc fm) 442 667 = some (0, 425, 2) := (by decide +kernel : rt_ct 442 667 = some (0, 425, 2))
theorem wc_442_788 : rx_ct (rt_P sc fm) 442 788 = some (0, 441, 1) := (by decide +kernel : rt_ct 442 788 = some (0, 441, 1))
theorem wc_442_791 : rx_ct (rt_P sc fm) 442 791 = some (0, 439, 1) := (by decide +kernel : rt_ct 442 791 = some (0, 439, 1))
theorem wf_442_218 : rx_ft (rt_P sc fm) 442 218 = some (15, 60) := (by decide +kernel : rt_ft 442 218 = some (15, 60))
theorem wi_442_0 : ri (rt_P sc fm) 442 0 (.iconst 0) (1) := ri_of (by decide +kernel) rfl
theorem wi_442_1 : ri (rt_P sc fm) 442 1 (.istore_n 2) (2) := ri_of (by decide +kernel) rfl
theorem wi_442_12 : ri (rt_P sc fm) 442 12 (.iload_n 1) (13) := ri_of (by decide +kernel) rfl
theorem wi_442_13 : ri (rt_P sc fm) 442 13 (.sipush 1200) (16) := ri_of (by decide +kernel) rfl
theorem wi_442_16 : ri (rt_P sc fm) 442 16 (.if_icmp .ge 25) (19) := ri_of (by decide +kernel) rfl
theorem wi_442_19 : ri (rt_P sc fm) 442 19 (.aload_n 0) (20) := ri_of (by decide +kernel) rfl
theorem wi_442_2 : ri (rt_P sc fm) 442 2 (.iload_n 2) (3) := ri_of (by decide +kernel) rfl
theorem wi_442_20 : ri (rt_P sc fm) 442 20 (.iload_n 1) (21) := ri_of (by decide +kernel) rfl
theorem wi_442_21 : ri (rt_P sc fm) 442 21 (.iload_n 2) (22) := ri_of (by decide +kernel) rfl
theorem wi_442_22 : ri (rt_P sc fm) 442 22 (.invokevirtual 667) (25) := ri_of (by decide +kernel) rfl
theorem wi_442_25 : ri (rt_P sc fm) 442 25 (.ifCond .eq 26) (28) := ri_of (by decide +kernel) rfl
theorem wi_442_28 : ri (rt_P sc fm) 442 28 (.aload_n 0) (29) := ri_of (by decide +kernel) rfl
theorem wi_442_29 : ri (rt_P sc fm) 442 29 (.aload_n 0) (30) := ri_of (by decide +kernel) rfl
theorem wi_442_3 : ri (rt_P sc fm) 442 3 (.aload_n 0) (4) := ri_of (by decide +kernel) rfl
theorem wi_442_30 : ri (rt_P sc fm) 442 30 (.iload_n 1) (31) := ri_of (by decide +kernel) rfl
theorem wi_442_31 : ri (rt_P sc fm) 442 31 (.iload_n 2) (32) := ri_of (by decide +kernel) rfl
theorem wi_442_32 : ri (rt_P sc fm) 442 32 (.invokevirtual 543) (35) := ri_of (by decide +kernel) rfl
theorem wi_442_35 : ri (rt_P sc fm) 442 35 (.invokevirtual 788) (38) := ri_of (by decide +kernel) rfl
theorem wi_442_38 : ri (rt_P sc fm) 442 38 (.ifCond .eq 13) (41) := ri_of (by decide +kernel) rfl
theorem wi_442_4 : ri (rt_P sc fm) 442 4 (.getfield 218) (7) := ri_of (by decide +kernel) rfl
theorem wi_442_41 : ri (rt_P sc fm) 442 41 (.aload_n 0) (42) := ri_of (by decide +kernel) rfl
theorem wi_442_42 : ri (rt_P sc fm) 442 42 (.aload_n 0) (43) := ri_of (by decide +kernel) rfl
theorem wi_442_43 : ri (rt_P sc fm) 442 43 (.iload_n 1) (44) := ri_of (by decide +kernel) rfl
theorem wi_442_44 : ri (rt_P sc fm) 442 44 (.iload_n 2) (45) := ri_of (by decide +kernel) rfl
theorem wi_442_45 : ri (rt_P sc fm) 442 45 (.invokevirtual 543) (48) := ri_of (by decide +kernel) rfl
theorem wi_442_48 : ri (rt_P sc fm) 442 48 (.invokevirtual 791) (51) := ri_of (by decide +kernel) rfl
theorem wi_442_51 : ri (rt_P sc fm) 442 51 (.iinc 2 1) (54) := ri_of (by decide +kernel) rfl
theorem wi_442_54 : ri (rt_P sc fm) 442 54 (.goto (-52)) (57) := ri_of (by decide +kernel) rfl
theorem wi_442_57 : ri (rt_P sc fm) 442 57 (.return_) (58) := ri_of (by decide +kernel) rfl
theorem wi_442_7 : ri (rt_P sc fm) 442 7 (.iload_n 1) (8) := ri_of (by decide +kernel) rfl
theorem wi_442_8 : ri (rt_P sc fm) 442 8 (.iaload) (9) := ri_of (by decide +kernel) rfl
theorem wi_442_9 : ri (rt_P sc fm) 442 9 (.if_icmp .ge 48) (12) := ri_of (by decide +kernel) rfl
theorem wm_439 : rx_ml (rt_P sc fm) 439 = 7 := (by decide +kernel : rt_ml 439 = 7)
theorem wm_441 : rx_ml (rt_P sc fm) 441 = 6 := (by decide +kernel : rt_ml 441 = 6)
theorem wr_442 : rx_rt (rt_P sc fm) 442 = none := (by decide +kernel : rt_rt 442 = none)
/-- MarkHouseModel.sayMarks(I)V -/
def d_442 (n : Nat) (a1 : Int32) (c : cS) : Option (cS) :=
  Option.bind (whl (R := (cS)) (fun s2 : Int32 × cS =>
    if ib a1 1219 then
    if (s2.2.1 222 (ix a1)) ≤ s2.1 then
      some (.inr s2.2)
    else
      jn (fun p4 : cS =>
        lt (s2.1 + 1 : Int32) (fun v6 =>
        some (.inl (v6, p4))))
      (fun j51 =>
      jn (fun p8 : cS =>
        Option.bind (d_392 n a1 s2.1) (fun v9 =>
        Option.bind (d_439 n v9 p8) (fun r10 =>
        j51 r10)))
      (fun j41 =>
      if 1200 ≤ a1 then
        j41 s2.2
      else
        Option.bind (d_425 n a1 s2.1 s2.2) (fun v11 =>
        if v11 = 0 then
          j51 s2.2
        else
          Option.bind (d_392 n a1 s2.1) (fun v12 =>
          Option.bind (d_441 n v12 s2.2) (fun r13 =>
          if r13.1 = 0 then
            j51 r13.2
          else
            j41 r13.2)))))
    else none) n (0, c))
  (fun x14 : cS =>
    some x14)
theorem sp_442 {F Lo n : Nat} {a1 : Int32} {c y : cS} {w : cW} {K : cS → Prop} {Q : ((Option Value) ⊕ String) → List va_E → Prop} (hw : rOK fm w) (hF : 7 ≤ F) (hLo : 154 ≤ Lo)  (h : wp (d_442 n a1 c) K) (hQ : ∀ r, K r → Q (.inl none) (hq false r y w)) : rs (rt_P sc fm) 442 F Lo 0 [(0, .ref 174), (1, .int a1)] [] (hq false c y w) Q := by
  unfold d_442 at h
  obtain ⟨lv, elv⟩ : ∃ lv : rx_L, lv = [(0, .ref 174), (1, .int a1)] := ⟨_, rfl⟩
  rw [← elv]
  have l0 : rx_ld lv 0 = some (.ref 174) := by rw [elv]; rfl
  have l1 : rx_ld lv 1 = some (.int a1) := by rw [elv]; rfl
  refine rs_pure wi_442_0 rfl ?_
  refine rs_topi (v := 0) (by decide) ?_
  refine dl_istn wi_442_1 rfl (fun lv l2 t1 => ?_)
  have l0 := t1 _ _ (by decide) (Or.inl rfl) l0
  have l1 := t1 _ _ (by decide) (Or.inl rfl) l1
  refine whl_ex (A := fun s2 : Int32 × cS => ∀ lv, rx_ld lv 0 = some (.ref 174) → rx_ld lv 1 = some (.int a1) → rx_ld lv 2 = some (.int s2.1) → rs (rt_P sc fm) 442 F Lo 2 lv [] (hq false s2.2 y w) Q) (B := (fun x14 : cS => ∀ lv, rs (rt_P sc fm) 442 F Lo 57 lv [] (hq false x14 y w) Q)) ?_ ?_ _ _ (wp_bind h) _ l0 l1 l2
  · intro s2 h lv l0 l1 l2
    refine rs_ildn wi_442_2 l2 ?_
    refine rs_aldn wi_442_3 l0 ?_
    refine dq_gr wi_442_4 wf_442_218 tf_174_60 ?_
    refine rs_ildn wi_442_7 l1 ?_
    obtain ⟨g3, h⟩ := wp_gd h
    refine dq_iald wi_442_8 t_222 g3 ?_
    refine rs_icge (tg := 57) wi_442_9 ⟨by decide, by decide⟩ (fun q => ?_) (fun q => ?_)
    ·
      have h := wp_pos h q
      exact h _
    ·
      have h := wp_neg h q
      refine rs_ildn wi_442_12 l1 ?_
      refine rs_pure wi_442_13 rfl ?_
      refine rs_topi (v := 1200) (by decide) ?_
      refine wp_jn (B := fun p4 : cS => ∀ lv, rx_ld lv 0 = some (.ref 174) → rx_ld lv 1 = some (.int a1) → rx_ld lv 2 = some (.int s2.1) → rs (rt_P sc fm) 442 F Lo 51 lv [] (hq false p4 y w) Q) h (fun p4 h lv l0 l1 l2 => ?_) (fun j51 hj51 h => ?_)
      ·
        obtain ⟨v6, e7, h⟩ := wp_lt h
        refine dl_inc wi_442_51 l2 rfl e7 (fun lv l2 t5 => ?_)
        have l0 := t5 _ _ (by decide) (Or.inl rfl) l0
        have l1 := t5 _ _ (by decide) (Or.inl rfl) l1
        refine rs_goto (tg := 2) wi_442_54 ⟨by decide, by decide⟩ ?_
        exact h _ l0 l1 l2
      refine wp_jn (B := fun p8 : cS => ∀ lv, rx_ld lv 0 = some (.ref 174) → rx_ld lv 1 = some (.int a1) → rx_ld lv 2 = some (.int s2.1) → rs (rt_P sc fm) 442 F Lo 41 lv [] (hq false p8 y w) Q) h (fun p8 h lv l0 l1 l2 => ?_) (fun j41 hj41 h => ?_)
      ·
        refine rs_aldn wi_442_41 l0 ?_
        refine rs_aldn wi_442_42 l0 ?_
        refine rs_ildn wi_442_43 l1 ?_
        refine rs_ildn wi_442_44 l2 ?_
        refine rs_V wi_442_45 wc_442_543 rfl (dq_isa tf_174_0 wa_15_392) (Nat.le_trans (by decide) hF) (ml_le wm_392 (Nat.le_trans (by decide) hLo)) rfl (sp_392 (Nat.le_trans (by decide : 0 ≤ 7 - 1) (Nat.sub_le_sub_right hF 1)) (ml_sub wm_392 (Nat.le_trans (by decide : 0 ≤ 154 - 22) (Nat.sub_le_sub_right hLo 22))) (wp_bind h) (fun v9 h => rs_back1 ?_))
        refine rs_V wi_442_48 wc_442_791 rfl (dq_isa tf_174_0 wa_15_439) (Nat.le_trans (by decide) hF) (ml_le wm_439 (Nat.le_trans (by decide) hLo)) rfl (sp_439 hw (Nat.le_trans (by decide : 6 ≤ 7 - 1) (Nat.sub_le_sub_right hF 1)) (ml_sub wm_439 (Nat.le_trans (by decide : 128 ≤ 154 - 26) (Nat.sub_le_sub_right hLo 26))) (wp_bind h) (fun r10 h => rs_back0 ?_))
        exact hj51 _ h _ l0 l1 l2
      refine rs_icge (tg := 41) wi_442_16 ⟨by decide, by decide⟩ (fun q => ?_) (fun q => ?_)
      ·
        have h := wp_pos h q
        exact hj41 _ h _ l0 l1 l2
      ·
        have h := wp_neg h q
        refine rs_aldn wi_442_19 l0 ?_
        refine rs_ildn wi_442_20 l1 ?_
        refine rs_ildn wi_442_21 l2 ?_
        refine rs_V wi_442_22 wc_442_667 rfl (dq_isa tf_174_0 wa_15_425) (Nat.le_trans (by decide) hF) (ml_le wm_425 (Nat.le_trans (by decide) hLo)) rfl (sp_425 hw (Nat.le_trans (by decide : 1 ≤ 7 - 1) (Nat.sub_le_sub_right hF 1)) (ml_sub wm_425 (Nat.le_trans (by decide : 23 ≤ 154 - 29) (Nat.sub_le_sub_right hLo 29))) (wp_bind h) (fun v11 h => rs_back1 ?_))
        refine rs_ifeq (tg := 51) wi_442_25 ⟨by decide, by decide⟩ (fun q => ?_) (fun q => ?_)
        ·
          have h := wp_pos h q
          exact hj51 _ h _ l0 l1 l2
        ·
          have h := wp_neg h q
          refine rs_aldn wi_442_28 l0 ?_
          refine rs_aldn wi_442_29 l0 ?_
          refine rs_ildn wi_442_30 l1 ?_
          refine rs_ildn wi_442_31 l2 ?_
          refine rs_V wi_442_32 wc_442_543 rfl (dq_isa tf_174_0 wa_15_392) (Nat.le_trans (by decide) hF) (ml_le wm_392 (Nat.le_trans (by decide) hLo)) rfl (sp_392 (Nat.le_trans (by decide : 0 ≤ 7 - 1) (Nat.sub_le_sub_right hF 1)) (ml_sub wm_392 (Nat.le_trans (by decide : 0 ≤ 154 - 22) (Nat.sub_le_sub_right hLo 22))) (wp_bind h) (fun v12 h => rs_back1 ?_))
          refine rs_V wi_442_35 wc_442_788 rfl (dq_isa tf_174_0 wa_15_441) (Nat.le_trans (by decide) hF) (ml_le wm_441 (Nat.le_trans (by decide) hLo)) rfl (sp_441 hw (Nat.le_trans (by decide : 2 ≤ 7 - 1) (Nat.sub_le_sub_right hF 1)) (ml_sub wm_441 (Nat.le_trans (by decide : 49 ≤ 154 - 25) (Nat.sub_le_sub_right hLo 25))) (wp_bind h) (fun r13 h => rs_back1 ?_))
          refine rs_ifeq (tg := 51) wi_442_38 ⟨by decide, by decide⟩ (fun q => ?_) (fun q => ?_)
          ·
            have h := wp_pos h q
            exact hj51 _ h _ l0 l1 l2
          ·
            have h := wp_neg h q
            exact hj41 _ h _ l0 l1 l2
  ·
    intro x14 h lv
    exact rs_vret wi_442_57 wr_442 (hQ x14 h)
theorem wa_15_442 : rz_cn 15 (rx_yn (rt_P sc fm) 442).cls = true := (by decide +kernel : rz_cn 15 (rt_yn 442).cls = true)
theorem wc_445_402 : rx_ct (rt_P sc fm) 445 402 = some (0, 362, 1) := (by decide +kernel : rt_ct 445 402 = some (0, 362, 1))
theorem wc_445_765 : rx_ct (rt_P sc fm) 445 765 = some (0, 363, 1) := (by decide +kernel : rt_ct 445 765 = some (0, 363, 1))
theorem wc_445_780 : rx_ct (rt_P sc fm) 445 780 = some (0, 366, 1) := (by decide +kernel : rt_ct 445 780 = some (0, 366, 1))
theorem wc_445_783 : rx_ct (rt_P sc fm) 445 783 = some (0, 365, 1) := (by decide +kernel : rt_ct 445 783 = some (0, 365, 1))
theorem wc_445_803 : rx_ct (rt_P sc fm) 445 803 = some (0, 442, 1) := (by decide +kernel : rt_ct 445 803 = some (0, 442, 1))
theorem wf_445_119 : rx_ft (rt_P sc fm) 445 119 = some (15, 25) := (by decide +kernel : rt_ft 445 119 = some (15, 25))
theorem wf_445_122 : rx_ft (rt_P sc fm) 445 122 = some (15, 26) := (by decide +kernel : rt_ft 445 122 = some (15, 26))
theorem wf_445_125 : rx_ft (rt_P sc fm) 445 125 = some (15, 27) := (by decide +kernel : rt_ft 445 125 = some (15, 27))
theorem wf_445_128 : rx_ft (rt_P sc fm) 445 128 = some (15, 28) := (by decide +kernel : rt_ft 445 128 = some (15, 28))
theorem wf_445_131 : rx_ft (rt_P sc fm) 445 131 = some (15, 29) := (by decide +kernel : rt_ft 445 131 = some (15, 29))
theorem wf_445_134 : rx_ft (rt_P sc fm) 445 134 = some (15, 30) := (by decide +kernel : rt_ft 445 134 = some (15, 30))
theorem wf_445_137 : rx_ft (rt_P sc fm) 445 137 = some (15, 31) := (by decide +kernel : rt_ft 445 137 = some (15, 31))
theorem wf_445_140 : rx_ft (rt_P sc fm) 445 140 = some (15, 32) := (by decide +kernel : rt_ft 445 140 = some (15, 32))
theorem wf_445_143 : rx_ft (rt_P sc fm) 445 143 = some (15, 33) := (by decide +kernel : rt_ft 445 143 = some (15, 33))
theorem wf_445_218 : rx_ft (rt_P sc fm) 445 218 = some (15, 60) := (by decide +kernel : rt_ft 445 218 = some (15, 60))
theorem wi_445_0 : ri (rt_P sc fm) 445 0 (.aload_n 0) (1) := ri_of (by decide +kernel) rfl
theorem wi_445_1 : ri (rt_P sc fm) 445 1 (.ldc 20) (3) := ri_of (by decide +kernel) rfl
theorem wi_445_100 : ri (rt_P sc fm) 445 100 (.aload_n 0) (101) := ri_of (by decide +kernel) rfl
theorem wi_445_101 : ri (rt_P sc fm) 445 101 (.ldc_w 778) (104) := ri_of (by decide +kernel) rfl
theorem wi_445_104 : ri (rt_P sc fm) 445 104 (.invokevirtual 402) (107) := ri_of (by decide +kernel) rfl
theorem wi_445_107 : ri (rt_P sc fm) 445 107 (.aload_n 0) (108) := ri_of (by decide +kernel) rfl
theorem wi_445_108 : ri (rt_P sc fm) 445 108 (.getfield 128) (111) := ri_of (by decide +kernel) rfl
theorem wi_445_11 : ri (rt_P sc fm) 445 11 (.iload_n 1) (12) := ri_of (by decide +kernel) rfl
theorem wi_445_111 : ri (rt_P sc fm) 445 111 (.iload_n 3) (112) := ri_of (by decide +kernel) rfl
theorem wi_445_112 : ri (rt_P sc fm) 445 112 (.baload) (113) := ri_of (by decide +kernel) rfl
theorem wi_445_113 : ri (rt_P sc fm) 445 113 (.ifCond .eq 16) (116) := ri_of (by decide +kernel) rfl
theorem wi_445_116 : ri (rt_P sc fm) 445 116 (.aload_n 0) (117) := ri_of (by decide +kernel) rfl
theorem wi_445_117 : ri (rt_P sc fm) 445 117 (.aload_n 0) (118) := ri_of (by decide +kernel) rfl
theorem wi_445_118 : ri (rt_P sc fm) 445 118 (.getfield 134) (121) := ri_of (by decide +kernel) rfl
theorem wi_445_12 : ri (rt_P sc fm) 445 12 (.laload) (13) := ri_of (by decide +kernel) rfl
theorem wi_445_121 : ri (rt_P sc fm) 445 121 (.iload_n 3) (122) := ri_of (by decide +kernel) rfl
theorem wi_445_122 : ri (rt_P sc fm) 445 122 (.laload) (123) := ri_of (by decide +kernel) rfl
theorem wi_445_123 : ri (rt_P sc fm) 445 123 (.invokevirtual 780) (126) := ri_of (by decide +kernel) rfl
theorem wi_445_126 : ri (rt_P sc fm) 445 126 (.goto 14) (129) := ri_of (by decide +kernel) rfl
theorem wi_445_129 : ri (rt_P sc fm) 445 129 (.aload_n 0) (130) := ri_of (by decide +kernel) rfl
theorem wi_445_13 : ri (rt_P sc fm) 445 13 (.invokevirtual 765) (16) := ri_of (by decide +kernel) rfl
theorem wi_445_130 : ri (rt_P sc fm) 445 130 (.aload_n 0) (131) := ri_of (by decide +kernel) rfl
theorem wi_445_131 : ri (rt_P sc fm) 445 131 (.getfield 134) (134) := ri_of (by decide +kernel) rfl
theorem wi_445_134 : ri (rt_P sc fm) 445 134 (.iload_n 3) (135) := ri_of (by decide +kernel) rfl
theorem wi_445_135 : ri (rt_P sc fm) 445 135 (.laload) (136) := ri_of (by decide +kernel) rfl
theorem wi_445_136 : ri (rt_P sc fm) 445 136 (.l2i) (137) := ri_of (by decide +kernel) rfl
theorem wi_445_137 : ri (rt_P sc fm) 445 137 (.invokevirtual 783) (140) := ri_of (by decide +kernel) rfl
theorem wi_445_140 : ri (rt_P sc fm) 445 140 (.iinc 2 1) (143) := ri_of (by decide +kernel) rfl
theorem wi_445_143 : ri (rt_P sc fm) 445 143 (.goto (-125)) (146) := ri_of (by decide +kernel) rfl
theorem wi_445_146 : ri (rt_P sc fm) 445 146 (.aload_n 0) (147) := ri_of (by decide +kernel) rfl
theorem wi_445_147 : ri (rt_P sc fm) 445 147 (.getfield 122) (150) := ri_of (by decide +kernel) rfl
theorem wi_445_150 : ri (rt_P sc fm) 445 150 (.iload_n 1) (151) := ri_of (by decide +kernel) rfl
theorem wi_445_151 : ri (rt_P sc fm) 445 151 (.iaload) (152) := ri_of (by decide +kernel) rfl
theorem wi_445_152 : ri (rt_P sc fm) 445 152 (.ifCond .le 10) (155) := ri_of (by decide +kernel) rfl
theorem wi_445_155 : ri (rt_P sc fm) 445 155 (.aload_n 0) (156) := ri_of (by decide +kernel) rfl
theorem wi_445_156 : ri (rt_P sc fm) 445 156 (.ldc_w 786) (159) := ri_of (by decide +kernel) rfl
theorem wi_445_159 : ri (rt_P sc fm) 445 159 (.invokevirtual 402) (162) := ri_of (by decide +kernel) rfl
theorem wi_445_16 : ri (rt_P sc fm) 445 16 (.iconst 0) (17) := ri_of (by decide +kernel) rfl
theorem wi_445_162 : ri (rt_P sc fm) 445 162 (.aload_n 0) (163) := ri_of (by decide +kernel) rfl
theorem wi_445_163 : ri (rt_P sc fm) 445 163 (.getfield 137) (166) := ri_of (by decide +kernel) rfl
theorem wi_445_166 : ri (rt_P sc fm) 445 166 (.iload_n 1) (167) := ri_of (by decide +kernel) rfl
theorem wi_445_167 : ri (rt_P sc fm) 445 167 (.iaload) (168) := ri_of (by decide +kernel) rfl
theorem wi_445_168 : ri (rt_P sc fm) 445 168 (.bipush 15) (170) := ri_of (by decide +kernel) rfl
theorem wi_445_17 : ri (rt_P sc fm) 445 17 (.istore_n 2) (18) := ri_of (by decide +kernel) rfl
theorem wi_445_170 : ri (rt_P sc fm) 445 170 (.if_icmp .eq 78) (173) := ri_of (by decide +kernel) rfl
theorem wi_445_173 : ri (rt_P sc fm) 445 173 (.aload_n 0) (174) := ri_of (by decide +kernel) rfl
theorem wi_445_174 : ri (rt_P sc fm) 445 174 (.ldc 34) (176) := ri_of (by decide +kernel) rfl
theorem wi_445_176 : ri (rt_P sc fm) 445 176 (.invokevirtual 402) (179) := ri_of (by decide +kernel) rfl
theorem wi_445_179 : ri (rt_P sc fm) 445 179 (.aload_n 0) (180) := ri_of (by decide +kernel) rfl
theorem wi_445_18 : ri (rt_P sc fm) 445 18 (.iload_n 2) (19) := ri_of (by decide +kernel) rfl
theorem wi_445_180 : ri (rt_P sc fm) 445 180 (.getfield 137) (183) := ri_of (by decide +kernel) rfl
theorem wi_445_183 : ri (rt_P sc fm) 445 183 (.iload_n 1) (184) := ri_of (by decide +kernel) rfl
theorem wi_445_184 : ri (rt_P sc fm) 445 184 (.iaload) (185) := ri_of (by decide +kernel) rfl
theorem wi_445_185 : ri (rt_P sc fm) 445 185 (.iconst 1) (186) := ri_of (by decide +kernel) rfl
theorem wi_445_186 : ri (rt_P sc fm) 445 186 (.iand) (187) := ri_of (by decide +kernel) rfl
theorem wi_445_187 : ri (rt_P sc fm) 445 187 (.ifCond .eq 9) (190) := ri_of (by decide +kernel) rfl
theorem wi_445_19 : ri (rt_P sc fm) 445 19 (.aload_n 0) (20) := ri_of (by decide +kernel) rfl
theorem wi_445_190 : ri (rt_P sc fm) 445 190 (.aload_n 0) (191) := ri_of (by decide +kernel) rfl
theorem wi_445_191 : ri (rt_P sc fm) 445 191 (.ldc 22) (193) := ri_of (by decide +kernel) rfl
theorem wi_445_193 : ri (rt_P sc fm) 445 193 (.invokevirtual 402) (196) := ri_of (by decide +kernel) rfl
theorem wi_445_196 : ri (rt_P sc fm) 445 196 (.aload_n 0) (197) := ri_of (by decide +kernel) rfl
theorem wi_445_197 : ri (rt_P sc fm) 445 197 (.getfield 137) (200) := ri_of (by decide +kernel) rfl
theorem wi_445_20 : ri (rt_P sc fm) 445 20 (.getfield 122) (23) := ri_of (by decide +kernel) rfl
theorem wi_445_200 : ri (rt_P sc fm) 445 200 (.iload_n 1) (201) := ri_of (by decide +kernel) rfl
theorem wi_445_201 : ri (rt_P sc fm) 445 201 (.iaload) (202) := ri_of (by decide +kernel) rfl
theorem wi_445_202 : ri (rt_P sc fm) 445 202 (.iconst 2) (203) := ri_of (by decide +kernel) rfl
theorem wi_445_203 : ri (rt_P sc fm) 445 203 (.iand) (204) := ri_of (by decide +kernel) rfl
theorem wi_445_204 : ri (rt_P sc fm) 445 204 (.ifCond .eq 9) (207) := ri_of (by decide +kernel) rfl
theorem wi_445_207 : ri (rt_P sc fm) 445 207 (.aload_n 0) (208) := ri_of (by decide +kernel) rfl
theorem wi_445_208 : ri (rt_P sc fm) 445 208 (.ldc 24) (210) := ri_of (by decide +kernel) rfl
theorem wi_445_210 : ri (rt_P sc fm) 445 210 (.invokevirtual 402) (213) := ri_of (by decide +kernel) rfl
theorem wi_445_213 : ri (rt_P sc fm) 445 213 (.aload_n 0) (214) := ri_of (by decide +kernel) rfl
theorem wi_445_214 : ri (rt_P sc fm) 445 214 (.getfield 137) (217) := ri_of (by decide +kernel) rfl
theorem wi_445_217 : ri (rt_P sc fm) 445 217 (.iload_n 1) (218) := ri_of (by decide +kernel) rfl
theorem wi_445_218 : ri (rt_P sc fm) 445 218 (.iaload) (219) := ri_of (by decide +kernel) rfl
theorem wi_445_219 : ri (rt_P sc fm) 445 219 (.iconst 4) (220) := ri_of (by decide +kernel) rfl
theorem wi_445_220 : ri (rt_P sc fm) 445 220 (.iand) (221) := ri_of (by decide +kernel) rfl
theorem wi_445_221 : ri (rt_P sc fm) 445 221 (.ifCond .eq 9) (224) := ri_of (by decide +kernel) rfl
theorem wi_445_224 : ri (rt_P sc fm) 445 224 (.aload_n 0) (225) := ri_of (by decide +kernel) rfl
theorem wi_445_225 : ri (rt_P sc fm) 445 225 (.ldc 26) (227) := ri_of (by decide +kernel) rfl
theorem wi_445_227 : ri (rt_P sc fm) 445 227 (.invokevirtual 402) (230) := ri_of (by decide +kernel) rfl
theorem wi_445_23 : ri (rt_P sc fm) 445 23 (.iload_n 1) (24) := ri_of (by decide +kernel) rfl
theorem wi_445_230 : ri (rt_P sc fm) 445 230 (.aload_n 0) (231) := ri_of (by decide +kernel) rfl
theorem wi_445_231 : ri (rt_P sc fm) 445 231 (.getfield 137) (234) := ri_of (by decide +kernel) rfl
theorem wi_445_234 : ri (rt_P sc fm) 445 234 (.iload_n 1) (235) := ri_of (by decide +kernel) rfl
theorem wi_445_235 : ri (rt_P sc fm) 445 235 (.iaload) (236) := ri_of (by decide +kernel) rfl
theorem wi_445_236 : ri (rt_P sc fm) 445 236 (.bipush 8) (238) := ri_of (by decide +kernel) rfl
theorem wi_445_238 : ri (rt_P sc fm) 445 238 (.iand) (239) := ri_of (by decide +kernel) rfl
theorem wi_445_239 : ri (rt_P sc fm) 445 239 (.ifCond .eq 9) (242) := ri_of (by decide +kernel) rfl
theorem wi_445_24 : ri (rt_P sc fm) 445 24 (.iaload) (25) := ri_of (by decide +kernel) rfl
theorem wi_445_242 : ri (rt_P sc fm) 445 242 (.aload_n 0) (243) := ri_of (by decide +kernel) rfl
theorem wi_445_243 : ri (rt_P sc fm) 445 243 (.ldc 28) (245) := ri_of (by decide +kernel) rfl
theorem wi_445_245 : ri (rt_P sc fm) 445 245 (.invokevirtual 402) (248) := ri_of (by decide +kernel) rfl
theorem wi_445_248 : ri (rt_P sc fm) 445 248 (.aload_n 0) (249) := ri_of (by decide +kernel) rfl
theorem wi_445_249 : ri (rt_P sc fm) 445 249 (.getfield 140) (252) := ri_of (by decide +kernel) rfl
theorem wi_445_25 : ri (rt_P sc fm) 445 25 (.if_icmp .ge 121) (28) := ri_of (by decide +kernel) rfl
theorem wi_445_252 : ri (rt_P sc fm) 445 252 (.iload_n 1) (253) := ri_of (by decide +kernel) rfl
theorem wi_445_253 : ri (rt_P sc fm) 445 253 (.baload) (254) := ri_of (by decide +kernel) rfl
theorem wi_445_254 : ri (rt_P sc fm) 445 254 (.ifCond .eq 9) (257) := ri_of (by decide +kernel) rfl
theorem wi_445_257 : ri (rt_P sc fm) 445 257 (.aload_n 0) (258) := ri_of (by decide +kernel) rfl
theorem wi_445_258 : ri (rt_P sc fm) 445 258 (.ldc 36) (260) := ri_of (by decide +kernel) rfl
theorem wi_445_260 : ri (rt_P sc fm) 445 260 (.invokevirtual 402) (263) := ri_of (by decide +kernel) rfl
theorem wi_445_263 : ri (rt_P sc fm) 445 263 (.aload_n 0) (264) := ri_of (by decide +kernel) rfl
theorem wi_445_264 : ri (rt_P sc fm) 445 264 (.getfield 143) (267) := ri_of (by decide +kernel) rfl
theorem wi_445_267 : ri (rt_P sc fm) 445 267 (.iload_n 1) (268) := ri_of (by decide +kernel) rfl
theorem wi_445_268 : ri (rt_P sc fm) 445 268 (.baload) (269) := ri_of (by decide +kernel) rfl
theorem wi_445_269 : ri (rt_P sc fm) 445 269 (.ifCond .eq 9) (272) := ri_of (by decide +kernel) rfl
theorem wi_445_272 : ri (rt_P sc fm) 445 272 (.aload_n 0) (273) := ri_of (by decide +kernel) rfl
theorem wi_445_273 : ri (rt_P sc fm) 445 273 (.ldc 38) (275) := ri_of (by decide +kernel) rfl
theorem wi_445_275 : ri (rt_P sc fm) 445 275 (.invokevirtual 402) (278) := ri_of (by decide +kernel) rfl
theorem wi_445_278 : ri (rt_P sc fm) 445 278 (.aload_n 0) (279) := ri_of (by decide +kernel) rfl
theorem wi_445_279 : ri (rt_P sc fm) 445 279 (.getfield 218) (282) := ri_of (by decide +kernel) rfl
theorem wi_445_28 : ri (rt_P sc fm) 445 28 (.iconst 4) (29) := ri_of (by decide +kernel) rfl
theorem wi_445_282 : ri (rt_P sc fm) 445 282 (.sipush 1200) (285) := ri_of (by decide +kernel) rfl
theorem wi_445_285 : ri (rt_P sc fm) 445 285 (.iload_n 1) (286) := ri_of (by decide +kernel) rfl
theorem wi_445_286 : ri (rt_P sc fm) 445 286 (.iadd) (287) := ri_of (by decide +kernel) rfl
theorem wi_445_287 : ri (rt_P sc fm) 445 287 (.iaload) (288) := ri_of (by decide +kernel) rfl
theorem wi_445_288 : ri (rt_P sc fm) 445 288 (.ifCond .le 10) (291) := ri_of (by decide +kernel) rfl
theorem wi_445_29 : ri (rt_P sc fm) 445 29 (.iload_n 1) (30) := ri_of (by decide +kernel) rfl
theorem wi_445_291 : ri (rt_P sc fm) 445 291 (.aload_n 0) (292) := ri_of (by decide +kernel) rfl
theorem wi_445_292 : ri (rt_P sc fm) 445 292 (.ldc_w 778) (295) := ri_of (by decide +kernel) rfl
theorem wi_445_295 : ri (rt_P sc fm) 445 295 (.invokevirtual 402) (298) := ri_of (by decide +kernel) rfl
theorem wi_445_298 : ri (rt_P sc fm) 445 298 (.aload_n 0) (299) := ri_of (by decide +kernel) rfl
theorem wi_445_299 : ri (rt_P sc fm) 445 299 (.sipush 1200) (302) := ri_of (by decide +kernel) rfl
theorem wi_445_3 : ri (rt_P sc fm) 445 3 (.invokevirtual 402) (6) := ri_of (by decide +kernel) rfl
theorem wi_445_30 : ri (rt_P sc fm) 445 30 (.imul) (31) := ri_of (by decide +kernel) rfl
theorem wi_445_302 : ri (rt_P sc fm) 445 302 (.iload_n 1) (303) := ri_of (by decide +kernel) rfl
theorem wi_445_303 : ri (rt_P sc fm) 445 303 (.iadd) (304) := ri_of (by decide +kernel) rfl
theorem wi_445_304 : ri (rt_P sc fm) 445 304 (.invokevirtual 803) (307) := ri_of (by decide +kernel) rfl
theorem wi_445_307 : ri (rt_P sc fm) 445 307 (.aload_n 0) (308) := ri_of (by decide +kernel) rfl
theorem wi_445_308 : ri (rt_P sc fm) 445 308 (.ldc_w 801) (311) := ri_of (by decide +kernel) rfl
theorem wi_445_31 : ri (rt_P sc fm) 445 31 (.iload_n 2) (32) := ri_of (by decide +kernel) rfl
theorem wi_445_311 : ri (rt_P sc fm) 445 311 (.invokevirtual 402) (314) := ri_of (by decide +kernel) rfl
theorem wi_445_314 : ri (rt_P sc fm) 445 314 (.return_) (315) := ri_of (by decide +kernel) rfl
theorem wi_445_32 : ri (rt_P sc fm) 445 32 (.iadd) (33) := ri_of (by decide +kernel) rfl
theorem wi_445_33 : ri (rt_P sc fm) 445 33 (.istore_n 3) (34) := ri_of (by decide +kernel) rfl
theorem wi_445_34 : ri (rt_P sc fm) 445 34 (.aload_n 0) (35) := ri_of (by decide +kernel) rfl
theorem wi_445_35 : ri (rt_P sc fm) 445 35 (.iload_n 2) (36) := ri_of (by decide +kernel) rfl
theorem wi_445_36 : ri (rt_P sc fm) 445 36 (.ifCond .ne 9) (39) := ri_of (by decide +kernel) rfl
theorem wi_445_39 : ri (rt_P sc fm) 445 39 (.ldc_w 776) (42) := ri_of (by decide +kernel) rfl
theorem wi_445_42 : ri (rt_P sc fm) 445 42 (.goto 6) (45) := ri_of (by decide +kernel) rfl
theorem wi_445_45 : ri (rt_P sc fm) 445 45 (.ldc_w 774) (48) := ri_of (by decide +kernel) rfl
theorem wi_445_48 : ri (rt_P sc fm) 445 48 (.invokevirtual 402) (51) := ri_of (by decide +kernel) rfl
theorem wi_445_51 : ri (rt_P sc fm) 445 51 (.aload_n 0) (52) := ri_of (by decide +kernel) rfl
theorem wi_445_52 : ri (rt_P sc fm) 445 52 (.aload_n 0) (53) := ri_of (by decide +kernel) rfl
theorem wi_445_53 : ri (rt_P sc fm) 445 53 (.getfield 125) (56) := ri_of (by decide +kernel) rfl
theorem wi_445_56 : ri (rt_P sc fm) 445 56 (.iload_n 3) (57) := ri_of (by decide +kernel) rfl
theorem wi_445_57 : ri (rt_P sc fm) 445 57 (.laload) (58) := ri_of (by decide +kernel) rfl
theorem wi_445_58 : ri (rt_P sc fm) 445 58 (.invokevirtual 765) (61) := ri_of (by decide +kernel) rfl
theorem wi_445_6 : ri (rt_P sc fm) 445 6 (.aload_n 0) (7) := ri_of (by decide +kernel) rfl
theorem wi_445_61 : ri (rt_P sc fm) 445 61 (.aload_n 0) (62) := ri_of (by decide +kernel) rfl
theorem wi_445_62 : ri (rt_P sc fm) 445 62 (.ldc_w 794) (65) := ri_of (by decide +kernel) rfl
theorem wi_445_65 : ri (rt_P sc fm) 445 65 (.invokevirtual 402) (68) := ri_of (by decide +kernel) rfl
theorem wi_445_68 : ri (rt_P sc fm) 445 68 (.aload_n 0) (69) := ri_of (by decide +kernel) rfl
theorem wi_445_69 : ri (rt_P sc fm) 445 69 (.aload_n 0) (70) := ri_of (by decide +kernel) rfl
theorem wi_445_7 : ri (rt_P sc fm) 445 7 (.aload_n 0) (8) := ri_of (by decide +kernel) rfl
theorem wi_445_70 : ri (rt_P sc fm) 445 70 (.getfield 128) (73) := ri_of (by decide +kernel) rfl
theorem wi_445_73 : ri (rt_P sc fm) 445 73 (.iload_n 3) (74) := ri_of (by decide +kernel) rfl
theorem wi_445_74 : ri (rt_P sc fm) 445 74 (.baload) (75) := ri_of (by decide +kernel) rfl
theorem wi_445_75 : ri (rt_P sc fm) 445 75 (.ifCond .eq 8) (78) := ri_of (by decide +kernel) rfl
theorem wi_445_78 : ri (rt_P sc fm) 445 78 (.ldc 44) (80) := ri_of (by decide +kernel) rfl
theorem wi_445_8 : ri (rt_P sc fm) 445 8 (.getfield 119) (11) := ri_of (by decide +kernel) rfl
theorem wi_445_80 : ri (rt_P sc fm) 445 80 (.goto 5) (83) := ri_of (by decide +kernel) rfl
theorem wi_445_83 : ri (rt_P sc fm) 445 83 (.ldc 42) (85) := ri_of (by decide +kernel) rfl
theorem wi_445_85 : ri (rt_P sc fm) 445 85 (.invokevirtual 402) (88) := ri_of (by decide +kernel) rfl
theorem wi_445_88 : ri (rt_P sc fm) 445 88 (.aload_n 0) (89) := ri_of (by decide +kernel) rfl
theorem wi_445_89 : ri (rt_P sc fm) 445 89 (.getfield 131) (92) := ri_of (by decide +kernel) rfl
theorem wi_445_92 : ri (rt_P sc fm) 445 92 (.iload_n 3) (93) := ri_of (by decide +kernel) rfl
theorem wi_445_93 : ri (rt_P sc fm) 445 93 (.baload) (94) := ri_of (by decide +kernel) rfl
theorem wi_445_94 : ri (rt_P sc fm) 445 94 (.ifCond .ne 6) (97) := ri_of (by decide +kernel) rfl
theorem wi_445_97 : ri (rt_P sc fm) 445 97 (.goto 43) (100) := ri_of (by decide +kernel) rfl
theorem wk_445_20 : rx_kt (rt_P sc fm) 445 20 = some (.ref (rx_K 3)) := (by decide +kernel : rt_kt 445 20 = some (.ref (rx_K 3)))
theorem wk_445_22 : rx_kt (rt_P sc fm) 445 22 = some (.ref (rx_K 4)) := (by decide +kernel : rt_kt 445 22 = some (.ref (rx_K 4)))
theorem wk_445_24 : rx_kt (rt_P sc fm) 445 24 = some (.ref (rx_K 5)) := (by decide +kernel : rt_kt 445 24 = some (.ref (rx_K 5)))
theorem wk_445_26 : rx_kt (rt_P sc fm) 445 26 = some (.ref (rx_K 6)) := (by decide +kernel : rt_kt 445 26 = some (.ref (rx_K 6)))
theorem wk_445_28 : rx_kt (rt_P sc fm) 445 28 = some (.ref (rx_K 7)) := (by decide +kernel : rt_kt 445 28 = some (.ref (rx_K 7)))
theorem wk_445_34 : rx_kt (rt_P sc fm) 445 34 = some (.ref (rx_K 10)) := (by decide +kernel : rt_kt 445 34 = some (.ref (rx_K 10)))
theorem wk_445_36 : rx_kt (rt_P sc fm) 445 36 = some (.ref (rx_K 11)) := (by decide +kernel : rt_kt 445 36 = some (.ref (rx_K 11)))
theorem wk_445_38 : rx_kt (rt_P sc fm) 445 38 = some (.ref (rx_K 12)) := (by decide +kernel : rt_kt 445 38 = some (.ref (rx_K 12)))
theorem wk_445_42 : rx_kt (rt_P sc fm) 445 42 = some (.ref (rx_K 14)) := (by decide +kernel : rt_kt 445 42 = some (.ref (rx_K 14)))
theorem wk_445_44 : rx_kt (rt_P sc fm) 445 44 = some (.ref (rx_K 15)) := (by decide +kernel : rt_kt 445 44 = some (.ref (rx_K 15)))
theorem wk_445_774 : rx_kt (rt_P sc fm) 445 774 = some (.ref (rx_K 51)) := (by decide +kernel : rt_kt 445 774 = some (.ref (rx_K 51)))
theorem wk_445_776 : rx_kt (rt_P sc fm) 445 776 = some (.ref (rx_K 52)) := (by decide +kernel : rt_kt 445 776 = some (.ref (rx_K 52)))
theorem wk_445_778 : rx_kt (rt_P sc fm) 445 778 = some (.ref (rx_K 53)) := (by decide +kernel : rt_kt 445 778 = some (.ref (rx_K 53)))
theorem wk_445_786 : rx_kt (rt_P sc fm) 445 786 = some (.ref (rx_K 54)) := (by decide +kernel : rt_kt 445 786 = some (.ref (rx_K 54)))
theorem wk_445_794 : rx_kt (rt_P sc fm) 445 794 = some (.ref (rx_K 33)) := (by decide +kernel : rt_kt 445 794 = some (.ref (rx_K 33)))
theorem wk_445_801 : rx_kt (rt_P sc fm) 445 801 = some (.ref (rx_K 34)) := (by decide +kernel : rt_kt 445 801 = some (.ref (rx_K 34)))
theorem wm_442 : rx_ml (rt_P sc fm) 442 = 3 := (by decide +kernel : rt_ml 442 = 3)
theorem wr_445 : rx_rt (rt_P sc fm) 445 = none := (by decide +kernel : rt_rt 445 = none)
/-- MarkHouseModel.tellKind(I)V -/
def d_445 (n : Nat) (a1 : Int32) (c : cS) : Option (cS) :=
  Option.bind (d_362 n 3 c) (fun r1 =>
  if ib a1 12 then
  Option.bind (d_363 n (r1.2 189 (ix a1)) r1) (fun r3 =>
  Option.bind (whl (R := (cS)) (fun s5 : Int32 × cS =>
    if ib a1 12 then
    if (s5.2.1 190 (ix a1)) ≤ s5.1 then
      some (.inr s5.2)
    else
      lt (((4 * a1) + s5.1) : Int32) (fun v8 =>
      jn (fun p10 : Nat =>
        Option.bind (d_362 n p10 s5.2) (fun r11 =>
        if ib v8 48 then
        Option.bind (d_363 n (r11.2 191 (ix v8)) r11) (fun r13 =>
        Option.bind (d_362 n 33 r13) (fun r14 =>
        if ib v8 48 then
        jn (fun p16 : Nat =>
          Option.bind (d_362 n p16 r14) (fun r17 =>
          if ib v8 48 then
          jn (fun p19 : cS =>
            lt (s5.1 + 1 : Int32) (fun v21 =>
            some (.inl (v21, p19))))
          (fun j140 =>
          if (r17.1 193 (ix v8)) = 0 then
            j140 r17
          else
            Option.bind (d_362 n 53 r17) (fun r23 =>
            if ib v8 48 then
            if (r23.1 192 (ix v8)) = 0 then
              if ib v8 48 then
              Option.bind (d_365 n (((r23.2 194 (ix v8)) : Int64).toInt32) r23) (fun r26 =>
              j140 r26)
              else none
            else
              if ib v8 48 then
              Option.bind (d_366 n (r23.2 194 (ix v8)) r23) (fun r28 =>
              j140 r28)
              else none
            else none))
          else none))
        (fun j85 =>
        if (r14.1 192 (ix v8)) = 0 then
          j85 14
        else
          j85 15)
        else none))
        else none))
      (fun j48 =>
      if s5.1 = 0 then
        j48 52
      else
        j48 51))
    else none) n (0, r3))
  (fun x29 : cS =>
    if ib a1 12 then
    jn (fun p31 : cS =>
      if ib a1 12 then
      jn (fun p33 : cS =>
        if ib a1 12 then
        jn (fun p35 : cS =>
          if ib a1 12 then
          jn (fun p37 : cS =>
            if ib (1200 + a1) 1219 then
            jn (fun p39 : cS =>
              Option.bind (d_442 n (1200 + a1) p39) (fun r40 =>
              Option.bind (d_362 n 34 r40) (fun r41 =>
              some r41)))
            (fun j298 =>
            if (p37.1 222 (ix (1200 + a1))) ≤ 0 then
              j298 p37
            else
              Option.bind (d_362 n 53 p37) (fun r42 =>
              j298 r42))
            else none)
          (fun j278 =>
          if (p35.1 197 (ix a1)) = 0 then
            j278 p35
          else
            Option.bind (d_362 n 12 p35) (fun r43 =>
            j278 r43))
          else none)
        (fun j263 =>
        if (p33.1 196 (ix a1)) = 0 then
          j263 p33
        else
          Option.bind (d_362 n 11 p33) (fun r44 =>
          j263 r44))
        else none)
      (fun j248 =>
      if (p31.1 195 (ix a1)) = 15 then
        j248 p31
      else
        Option.bind (d_362 n 10 p31) (fun r45 =>
        if ib a1 12 then
        jn (fun p47 : cS =>
          if ib a1 12 then
          jn (fun p49 : cS =>
            if ib a1 12 then
            jn (fun p51 : cS =>
              if ib a1 12 then
              if ((p51.1 195 (ix a1)) &&& 8) = 0 then
                j248 p51
              else
                Option.bind (d_362 n 7 p51) (fun r53 =>
                j248 r53)
              else none)
            (fun j230 =>
            if ((p49.1 195 (ix a1)) &&& 4) = 0 then
              j230 p49
            else
              Option.bind (d_362 n 6 p49) (fun r54 =>
              j230 r54))
            else none)
          (fun j213 =>
          if ((p47.1 195 (ix a1)) &&& 2) = 0 then
            j213 p47
          else
            Option.bind (d_362 n 5 p47) (fun r55 =>
            j213 r55))
          else none)
        (fun j196 =>
        if ((r45.1 195 (ix a1)) &&& 1) = 0 then
          j196 r45
        else
          Option.bind (d_362 n 4 r45) (fun r56 =>
          j196 r56))
        else none))
      else none)
    (fun j162 =>
    if (x29.1 190 (ix a1)) ≤ 0 then
      j162 x29
    else
      Option.bind (d_362 n 54 x29) (fun r57 =>
      j162 r57))
    else none))
  else none)
theorem sp_445 {F Lo n : Nat} {a1 : Int32} {c y : cS} {w : cW} {K : cS → Prop} {Q : ((Option Value) ⊕ String) → List va_E → Prop} (hw : rOK fm w) (hF : 8 ≤ F) (hLo : 176 ≤ Lo)  (h : wp (d_445 n a1 c) K) (hQ : ∀ r, K r → Q (.inl none) (hq false r y w)) : rs (rt_P sc fm) 445 F Lo 0 [(0, .ref 174), (1, .int a1)] [] (hq false c y w) Q := by
  unfold d_445 at h
  obtain ⟨lv, elv⟩ : ∃ lv : rx_L, lv = [(0, .ref 174), (1, .int a1)] := ⟨_, rfl⟩
  rw [← elv]
  have l0 : rx_ld lv 0 = some (.ref 174) := by rw [elv]; rfl
  have l1 : rx_ld lv 1 = some (.int a1) := by rw [elv]; rfl
  refine rs_aldn wi_445_0 l0 ?_
  refine rs_ldcS wi_445_1 wk_445_20 ?_
  refine rs_V wi_445_3 wc_445_402 rfl (dq_isa tf_174_0 wa_15_362) (Nat.le_trans (by decide) hF) (ml_le wm_362 (Nat.le_trans (by decide) hLo)) rfl (sp_362 hw (Nat.le_trans (by decide : 4 ≤ 8 - 1) (Nat.sub_le_sub_right hF 1)) (ml_sub wm_362 (Nat.le_trans (by decide : 85 ≤ 176 - 22) (Nat.sub_le_sub_right hLo 22))) (by decide +kernel) (wp_bind h) (fun r1 h => rs_back0 ?_))
  refine rs_aldn wi_445_6 l0 ?_
  refine rs_aldn wi_445_7 l0 ?_
  refine dq_gr wi_445_8 wf_445_119 tf_174_25 ?_
  refine rs_ildn wi_445_11 l1 ?_
  obtain ⟨g2, h⟩ := wp_gd h
  refine dq_lald wi_445_12 t_189 g2 ?_
  refine rs_V wi_445_13 wc_445_765 rfl (dq_isa tf_174_0 wa_15_363) (Nat.le_trans (by decide) hF) (ml_le wm_363 (Nat.le_trans (by decide) hLo)) rfl (sp_363 hw (Nat.le_trans (by decide : 2 ≤ 8 - 1) (Nat.sub_le_sub_right hF 1)) (ml_sub wm_363 (Nat.le_trans (by decide : 44 ≤ 176 - 22) (Nat.sub_le_sub_right hLo 22))) (wp_bind h) (fun r3 h => rs_back0 ?_))
  refine rs_pure wi_445_16 rfl ?_
  refine rs_topi (v := 0) (by decide) ?_
  refine dl_istn wi_445_17 rfl (fun lv l2 t4 => ?_)
  have l0 := t4 _ _ (by decide) (Or.inl rfl) l0
  have l1 := t4 _ _ (by decide) (Or.inl rfl) l1
  refine whl_ex (A := fun s5 : Int32 × cS => ∀ lv, rx_ld lv 0 = some (.ref 174) → rx_ld lv 1 = some (.int a1) → rx_ld lv 2 = some (.int s5.1) → rs (rt_P sc fm) 445 F Lo 18 lv [] (hq false s5.2 y w) Q) (B := (fun x29 : cS => ∀ lv, rx_ld lv 0 = some (.ref 174) → rx_ld lv 1 = some (.int a1) → rs (rt_P sc fm) 445 F Lo 146 lv [] (hq false x29 y w) Q)) ?_ ?_ _ _ (wp_bind h) _ l0 l1 l2
  · intro s5 h lv l0 l1 l2
    refine rs_ildn wi_445_18 l2 ?_
    refine rs_aldn wi_445_19 l0 ?_
    refine dq_gr wi_445_20 wf_445_122 tf_174_26 ?_
    refine rs_ildn wi_445_23 l1 ?_
    obtain ⟨g6, h⟩ := wp_gd h
    refine dq_iald wi_445_24 t_190 g6 ?_
    refine rs_icge (tg := 146) wi_445_25 ⟨by decide, by decide⟩ (fun q => ?_) (fun q => ?_)
    ·
      have h := wp_pos h q
      exact h _ l0 l1
    ·
      have h := wp_neg h q
      refine rs_pure wi_445_28 rfl ?_
      refine rs_topi (v := 4) (by decide) ?_
      refine rs_ildn wi_445_29 l1 ?_
      refine rs_pure wi_445_30 rfl ?_
      refine rs_ildn wi_445_31 l2 ?_
      refine rs_pure wi_445_32 rfl ?_
      obtain ⟨v8, e9, h⟩ := wp_lt h
      refine rs_topi e9 ?_
      refine dl_istn wi_445_33 rfl (fun lv l3 t7 => ?_)
      have l0 := t7 _ _ (by decide) (Or.inl rfl) l0
      have l1 := t7 _ _ (by decide) (Or.inl rfl) l1
      have l2 := t7 _ _ (by decide) (Or.inl rfl) l2
      refine rs_aldn wi_445_34 l0 ?_
      refine rs_ildn wi_445_35 l2 ?_
      refine wp_jn (B := fun p10 : Nat => ∀ lv, (rt_sb p10).isSome = true → rx_ld lv 0 = some (.ref 174) → rx_ld lv 1 = some (.int a1) → rx_ld lv 2 = some (.int s5.1) → rx_ld lv 3 = some (.int v8) → rs (rt_P sc fm) 445 F Lo 48 lv [.ref (rx_K p10), .ref 174] (hq false s5.2 y w) Q) h (fun p10 h lv hs48_0 l0 l1 l2 l3 => ?_) (fun j48 hj48 h => ?_)
      ·
        refine rs_V wi_445_48 wc_445_402 rfl (dq_isa tf_174_0 wa_15_362) (Nat.le_trans (by decide) hF) (ml_le wm_362 (Nat.le_trans (by decide) hLo)) rfl (sp_362 hw (Nat.le_trans (by decide : 4 ≤ 8 - 1) (Nat.sub_le_sub_right hF 1)) (ml_sub wm_362 (Nat.le_trans (by decide : 85 ≤ 176 - 22) (Nat.sub_le_sub_right hLo 22))) hs48_0 (wp_bind h) (fun r11 h => rs_back0 ?_))
        refine rs_aldn wi_445_51 l0 ?_
        refine rs_aldn wi_445_52 l0 ?_
        refine dq_gr wi_445_53 wf_445_125 tf_174_27 ?_
        refine rs_ildn wi_445_56 l3 ?_
        obtain ⟨g12, h⟩ := wp_gd h
        refine dq_lald wi_445_57 t_191 g12 ?_
        refine rs_V wi_445_58 wc_445_765 rfl (dq_isa tf_174_0 wa_15_363) (Nat.le_trans (by decide) hF) (ml_le wm_363 (Nat.le_trans (by decide) hLo)) rfl (sp_363 hw (Nat.le_trans (by decide : 2 ≤ 8 - 1) (Nat.sub_le_sub_right hF 1)) (ml_sub wm_363 (Nat.le_trans (by decide : 44 ≤ 176 - 22) (Nat.sub_le_sub_right hLo 22))) (wp_bind h) (fun r13 h => rs_back0 ?_))
        refine rs_aldn wi_445_61 l0 ?_
        refine rs_ldcwS wi_445_62 wk_445_794 ?_
        refine rs_V wi_445_65 wc_445_402 rfl (dq_isa tf_174_0 wa_15_362) (Nat.le_trans (by decide) hF) (ml_le wm_362 (Nat.le_trans (by decide) hLo)) rfl (sp_362 hw (Nat.le_trans (by decide : 4 ≤ 8 - 1) (Nat.sub_le_sub_right hF 1)) (ml_sub wm_362 (Nat.le_trans (by decide : 85 ≤ 176 - 22) (Nat.sub_le_sub_right hLo 22))) (by decide +kernel) (wp_bind h) (fun r14 h => rs_back0 ?_))
        refine rs_aldn wi_445_68 l0 ?_
        refine rs_aldn wi_445_69 l0 ?_
        refine dq_gr wi_445_70 wf_445_128 tf_174_28 ?_
        refine rs_ildn wi_445_73 l3 ?_
        obtain ⟨g15, h⟩ := wp_gd h
        refine dq_zald wi_445_74 t_192 g15 ?_
        refine wp_jn (B := fun p16 : Nat => ∀ lv, (rt_sb p16).isSome = true → rx_ld lv 0 = some (.ref 174) → rx_ld lv 1 = some (.int a1) → rx_ld lv 2 = some (.int s5.1) → rx_ld lv 3 = some (.int v8) → rs (rt_P sc fm) 445 F Lo 85 lv [.ref (rx_K p16), .ref 174] (hq false r14 y w) Q) h (fun p16 h lv hs85_0 l0 l1 l2 l3 => ?_) (fun j85 hj85 h => ?_)
        ·
          refine rs_V wi_445_85 wc_445_402 rfl (dq_isa tf_174_0 wa_15_362) (Nat.le_trans (by decide) hF) (ml_le wm_362 (Nat.le_trans (by decide) hLo)) rfl (sp_362 hw (Nat.le_trans (by decide : 4 ≤ 8 - 1) (Nat.sub_le_sub_right hF 1)) (ml_sub wm_362 (Nat.le_trans (by decide : 85 ≤ 176 - 22) (Nat.sub_le_sub_right hLo 22))) hs85_0 (wp_bind h) (fun r17 h => rs_back0 ?_))
          refine rs_aldn wi_445_88 l0 ?_
          refine dq_gr wi_445_89 wf_445_131 tf_174_29 ?_
          refine rs_ildn wi_445_92 l3 ?_
          obtain ⟨g18, h⟩ := wp_gd h
          refine dq_zald wi_445_93 t_193 g18 ?_
          refine wp_jn (B := fun p19 : cS => ∀ lv, rx_ld lv 0 = some (.ref 174) → rx_ld lv 1 = some (.int a1) → rx_ld lv 2 = some (.int s5.1) → rs (rt_P sc fm) 445 F Lo 140 lv [] (hq false p19 y w) Q) h (fun p19 h lv l0 l1 l2 => ?_) (fun j140 hj140 h => ?_)
          ·
            obtain ⟨v21, e22, h⟩ := wp_lt h
            refine dl_inc wi_445_140 l2 rfl e22 (fun lv l2 t20 => ?_)
            have l0 := t20 _ _ (by decide) (Or.inl rfl) l0
            have l1 := t20 _ _ (by decide) (Or.inl rfl) l1
            refine rs_goto (tg := 18) wi_445_143 ⟨by decide, by decide⟩ ?_
            exact h _ l0 l1 l2
          refine rs_ifne (tg := 100) wi_445_94 ⟨by decide, by decide⟩ (fun q => ?_) (fun q => ?_)
          ·
            have h := wp_neg h q
            refine rs_aldn wi_445_100 l0 ?_
            refine rs_ldcwS wi_445_101 wk_445_778 ?_
            refine rs_V wi_445_104 wc_445_402 rfl (dq_isa tf_174_0 wa_15_362) (Nat.le_trans (by decide) hF) (ml_le wm_362 (Nat.le_trans (by decide) hLo)) rfl (sp_362 hw (Nat.le_trans (by decide : 4 ≤ 8 - 1) (Nat.sub_le_sub_right hF 1)) (ml_sub wm_362 (Nat.le_trans (by decide : 85 ≤ 176 - 22) (Nat.sub_le_sub_right hLo 22))) (by decide +kernel) (wp_bind h) (fun r23 h => rs_back0 ?_))
            refine rs_aldn wi_445_107 l0 ?_
            refine dq_gr wi_445_108 wf_445_128 tf_174_28 ?_
            refine rs_ildn wi_445_111 l3 ?_
            obtain ⟨g24, h⟩ := wp_gd h
            refine dq_zald wi_445_112 t_192 g24 ?_
            refine rs_ifeq (tg := 129) wi_445_113 ⟨by decide, by decide⟩ (fun q => ?_) (fun q => ?_)
            ·
              have h := wp_pos h q
              refine rs_aldn wi_445_129 l0 ?_
              refine rs_aldn wi_445_130 l0 ?_
              refine dq_gr wi_445_131 wf_445_134 tf_174_30 ?_
              refine rs_ildn wi_445_134 l3 ?_
              obtain ⟨g25, h⟩ := wp_gd h
              refine dq_lald wi_445_135 t_194 g25 ?_
              refine rs_pure wi_445_136 rfl ?_
              refine rs_V wi_445_137 wc_445_783 rfl (dq_isa tf_174_0 wa_15_365) (Nat.le_trans (by decide) hF) (ml_le wm_365 (Nat.le_trans (by decide) hLo)) rfl (sp_365 hw (Nat.le_trans (by decide : 5 ≤ 8 - 1) (Nat.sub_le_sub_right hF 1)) (ml_sub wm_365 (Nat.le_trans (by decide : 107 ≤ 176 - 21) (Nat.sub_le_sub_right hLo 21))) (wp_bind h) (fun r26 h => rs_back0 ?_))
              exact hj140 _ h _ l0 l1 l2
            ·
              have h := wp_neg h q
              refine rs_aldn wi_445_116 l0 ?_
              refine rs_aldn wi_445_117 l0 ?_
              refine dq_gr wi_445_118 wf_445_134 tf_174_30 ?_
              refine rs_ildn wi_445_121 l3 ?_
              obtain ⟨g27, h⟩ := wp_gd h
              refine dq_lald wi_445_122 t_194 g27 ?_
              refine rs_V wi_445_123 wc_445_780 rfl (dq_isa tf_174_0 wa_15_366) (Nat.le_trans (by decide) hF) (ml_le wm_366 (Nat.le_trans (by decide) hLo)) rfl (sp_366 hw (Nat.le_trans (by decide : 2 ≤ 8 - 1) (Nat.sub_le_sub_right hF 1)) (ml_sub wm_366 (Nat.le_trans (by decide : 44 ≤ 176 - 22) (Nat.sub_le_sub_right hLo 22))) (wp_bind h) (fun r28 h => rs_back0 ?_))
              refine rs_goto (tg := 140) wi_445_126 ⟨by decide, by decide⟩ ?_
              exact hj140 _ h _ l0 l1 l2
          ·
            have h := wp_pos h q
            refine rs_goto (tg := 140) wi_445_97 ⟨by decide, by decide⟩ ?_
            exact hj140 _ h _ l0 l1 l2
        refine rs_ifeq (tg := 83) wi_445_75 ⟨by decide, by decide⟩ (fun q => ?_) (fun q => ?_)
        ·
          have h := wp_pos h q
          refine rs_ldcS wi_445_83 wk_445_42 ?_
          exact hj85 _ h _ (by decide +kernel) l0 l1 l2 l3
        ·
          have h := wp_neg h q
          refine rs_ldcS wi_445_78 wk_445_44 ?_
          refine rs_goto (tg := 85) wi_445_80 ⟨by decide, by decide⟩ ?_
          exact hj85 _ h _ (by decide +kernel) l0 l1 l2 l3
      refine rs_ifne (tg := 45) wi_445_36 ⟨by decide, by decide⟩ (fun q => ?_) (fun q => ?_)
      ·
        have h := wp_neg h q
        refine rs_ldcwS wi_445_45 wk_445_774 ?_
        exact hj48 _ h _ (by decide +kernel) l0 l1 l2 l3
      ·
        have h := wp_pos h q
        refine rs_ldcwS wi_445_39 wk_445_776 ?_
        refine rs_goto (tg := 48) wi_445_42 ⟨by decide, by decide⟩ ?_
        exact hj48 _ h _ (by decide +kernel) l0 l1 l2 l3
  ·
    intro x29 h lv l0 l1
    refine rs_aldn wi_445_146 l0 ?_
    refine dq_gr wi_445_147 wf_445_122 tf_174_26 ?_
    refine rs_ildn wi_445_150 l1 ?_
    obtain ⟨g30, h⟩ := wp_gd h
    refine dq_iald wi_445_151 t_190 g30 ?_
    refine wp_jn (B := fun p31 : cS => ∀ lv, rx_ld lv 0 = some (.ref 174) → rx_ld lv 1 = some (.int a1) → rs (rt_P sc fm) 445 F Lo 162 lv [] (hq false p31 y w) Q) h (fun p31 h lv l0 l1 => ?_) (fun j162 hj162 h => ?_)
    ·
      refine rs_aldn wi_445_162 l0 ?_
      refine dq_gr wi_445_163 wf_445_137 tf_174_31 ?_
      refine rs_ildn wi_445_166 l1 ?_
      obtain ⟨g32, h⟩ := wp_gd h
      refine dq_iald wi_445_167 t_195 g32 ?_
      refine rs_pure wi_445_168 rfl ?_
      refine rs_topi (v := 15) (by decide) ?_
      refine wp_jn (B := fun p33 : cS => ∀ lv, rx_ld lv 0 = some (.ref 174) → rx_ld lv 1 = some (.int a1) → rs (rt_P sc fm) 445 F Lo 248 lv [] (hq false p33 y w) Q) h (fun p33 h lv l0 l1 => ?_) (fun j248 hj248 h => ?_)
      ·
        refine rs_aldn wi_445_248 l0 ?_
        refine dq_gr wi_445_249 wf_445_140 tf_174_32 ?_
        refine rs_ildn wi_445_252 l1 ?_
        obtain ⟨g34, h⟩ := wp_gd h
        refine dq_zald wi_445_253 t_196 g34 ?_
        refine wp_jn (B := fun p35 : cS => ∀ lv, rx_ld lv 0 = some (.ref 174) → rx_ld lv 1 = some (.int a1) → rs (rt_P sc fm) 445 F Lo 263 lv [] (hq false p35 y w) Q) h (fun p35 h lv l0 l1 => ?_) (fun j263 hj263 h => ?_)
        ·
          refine rs_aldn wi_445_263 l0 ?_
          refine dq_gr wi_445_264 wf_445_143 tf_174_33 ?_
          refine rs_ildn wi_445_267 l1 ?_
          obtain ⟨g36, h⟩ := wp_gd h
          refine dq_zald wi_445_268 t_197 g36 ?_
          refine wp_jn (B := fun p37 : cS => ∀ lv, rx_ld lv 0 = some (.ref 174) → rx_ld lv 1 = some (.int a1) → rs (rt_P sc fm) 445 F Lo 278 lv [] (hq false p37 y w) Q) h (fun p37 h lv l0 l1 => ?_) (fun j278 hj278 h => ?_)
          ·
            refine rs_aldn wi_445_278 l0 ?_
            refine dq_gr wi_445_279 wf_445_218 tf_174_60 ?_
            refine rs_pure wi_445_282 rfl ?_
            refine rs_topi (v := 1200) (by decide) ?_
            refine rs_ildn wi_445_285 l1 ?_
            refine rs_pure wi_445_286 rfl ?_
            obtain ⟨g38, h⟩ := wp_gd h
            refine dq_iald wi_445_287 t_222 g38 ?_
            refine wp_jn (B := fun p39 : cS => ∀ lv, rx_ld lv 0 = some (.ref 174) → rx_ld lv 1 = some (.int a1) → rs (rt_P sc fm) 445 F Lo 298 lv [] (hq false p39 y w) Q) h (fun p39 h lv l0 l1 => ?_) (fun j298 hj298 h => ?_)
            ·
              refine rs_aldn wi_445_298 l0 ?_
              refine rs_pure wi_445_299 rfl ?_
              refine rs_topi (v := 1200) (by decide) ?_
              refine rs_ildn wi_445_302 l1 ?_
              refine rs_pure wi_445_303 rfl ?_
              refine rs_V wi_445_304 wc_445_803 rfl (dq_isa tf_174_0 wa_15_442) (Nat.le_trans (by decide) hF) (ml_le wm_442 (Nat.le_trans (by decide) hLo)) rfl (sp_442 hw (Nat.le_trans (by decide : 7 ≤ 8 - 1) (Nat.sub_le_sub_right hF 1)) (ml_sub wm_442 (Nat.le_trans (by decide : 154 ≤ 176 - 22) (Nat.sub_le_sub_right hLo 22))) (wp_bind h) (fun r40 h => rs_back0 ?_))
              refine rs_aldn wi_445_307 l0 ?_
              refine rs_ldcwS wi_445_308 wk_445_801 ?_
              refine rs_V wi_445_311 wc_445_402 rfl (dq_isa tf_174_0 wa_15_362) (Nat.le_trans (by decide) hF) (ml_le wm_362 (Nat.le_trans (by decide) hLo)) rfl (sp_362 hw (Nat.le_trans (by decide : 4 ≤ 8 - 1) (Nat.sub_le_sub_right hF 1)) (ml_sub wm_362 (Nat.le_trans (by decide : 85 ≤ 176 - 22) (Nat.sub_le_sub_right hLo 22))) (by decide +kernel) (wp_bind h) (fun r41 h => rs_back0 ?_))
              exact rs_vret wi_445_314 wr_445 (hQ r41 h)
            refine rs_ifle (tg := 298) wi_445_288 ⟨by decide, by decide⟩ (fun q => ?_) (fun q => ?_)
            ·
              have h := wp_pos h q
              exact hj298 _ h _ l0 l1
            ·
              have h := wp_neg h q
              refine rs_aldn wi_445_291 l0 ?_
              refine rs_ldcwS wi_445_292 wk_445_778 ?_
              refine rs_V wi_445_295 wc_445_402 rfl (dq_isa tf_174_0 wa_15_362) (Nat.le_trans (by decide) hF) (ml_le wm_362 (Nat.le_trans (by decide) hLo)) rfl (sp_362 hw (Nat.le_trans (by decide : 4 ≤ 8 - 1) (Nat.sub_le_sub_right hF 1)) (ml_sub wm_362 (Nat.le_trans (by decide : 85 ≤ 176 - 22) (Nat.sub_le_sub_right hLo 22))) (by decide +kernel) (wp_bind h) (fun r42 h => rs_back0 ?_))
              exact hj298 _ h _ l0 l1
          refine rs_ifeq (tg := 278) wi_445_269 ⟨by decide, by decide⟩ (fun q => ?_) (fun q => ?_)
          ·
            have h := wp_pos h q
            exact hj278 _ h _ l0 l1
          ·
            have h := wp_neg h q
            refine rs_aldn wi_445_272 l0 ?_
            refine rs_ldcS wi_445_273 wk_445_38 ?_
            refine rs_V wi_445_275 wc_445_402 rfl (dq_isa tf_174_0 wa_15_362) (Nat.le_trans (by decide) hF) (ml_le wm_362 (Nat.le_trans (by decide) hLo)) rfl (sp_362 hw (Nat.le_trans (by decide : 4 ≤ 8 - 1) (Nat.sub_le_sub_right hF 1)) (ml_sub wm_362 (Nat.le_trans (by decide : 85 ≤ 176 - 22) (Nat.sub_le_sub_right hLo 22))) (by decide +kernel) (wp_bind h) (fun r43 h => rs_back0 ?_))
            exact hj278 _ h _ l0 l1
        refine rs_ifeq (tg := 263) wi_445_254 ⟨by decide, by decide⟩ (fun q => ?_) (fun q => ?_)
        ·
          have h := wp_pos h q
          exact hj263 _ h _ l0 l1
        ·
          have h := wp_neg h q
          refine rs_aldn wi_445_257 l0 ?_
          refine rs_ldcS wi_445_258 wk_445_36 ?_
          refine rs_V wi_445_260 wc_445_402 rfl (dq_isa tf_174_0 wa_15_362) (Nat.le_trans (by decide) hF) (ml_le wm_362 (Nat.le_trans (by decide) hLo)) rfl (sp_362 hw (Nat.le_trans (by decide : 4 ≤ 8 - 1) (Nat.sub_le_sub_right hF 1)) (ml_sub wm_362 (Nat.le_trans (by decide : 85 ≤ 176 - 22) (Nat.sub_le_sub_right hLo 22))) (by decide +kernel) (wp_bind h) (fun r44 h => rs_back0 ?_))
          exact hj263 _ h _ l0 l1
      refine rs_iceq (tg := 248) wi_445_170 ⟨by decide, by decide⟩ (fun q => ?_) (fun q => ?_)
      ·
        have h := wp_pos h q
        exact hj248 _ h _ l0 l1
      ·
        have h := wp_neg h q
        refine rs_aldn wi_445_173 l0 ?_
        refine rs_ldcS wi_445_174 wk_445_34 ?_
        refine rs_V wi_445_176 wc_445_402 rfl (dq_isa tf_174_0 wa_15_362) (Nat.le_trans (by decide) hF) (ml_le wm_362 (Nat.le_trans (by decide) hLo)) rfl (sp_362 hw (Nat.le_trans (by decide : 4 ≤ 8 - 1) (Nat.sub_le_sub_right hF 1)) (ml_sub wm_362 (Nat.le_trans (by decide : 85 ≤ 176 - 22) (Nat.sub_le_sub_right hLo 22))) (by decide +kernel) (wp_bind h) (fun r45 h => rs_back0 ?_))
        refine rs_aldn wi_445_179 l0 ?_
        refine dq_gr wi_445_180 wf_445_137 tf_174_31 ?_
        refine rs_ildn wi_445_183 l1 ?_
        obtain ⟨g46, h⟩ := wp_gd h
        refine dq_iald wi_445_184 t_195 g46 ?_
        refine rs_pure wi_445_185 rfl ?_
        refine rs_topi (v := 1) (by decide) ?_
        refine rs_pure wi_445_186 rfl ?_
        refine wp_jn (B := fun p47 : cS => ∀ lv, rx_ld lv 0 = some (.ref 174) → rx_ld lv 1 = some (.int a1) → rs (rt_P sc fm) 445 F Lo 196 lv [] (hq false p47 y w) Q) h (fun p47 h lv l0 l1 => ?_) (fun j196 hj196 h => ?_)
        ·
          refine rs_aldn wi_445_196 l0 ?_
          refine dq_gr wi_445_197 wf_445_137 tf_174_31 ?_
          refine rs_ildn wi_445_200 l1 ?_
          obtain ⟨g48, h⟩ := wp_gd h
          refine dq_iald wi_445_201 t_195 g48 ?_
          refine rs_pure wi_445_202 rfl ?_
          refine rs_topi (v := 2) (by decide) ?_
          refine rs_pure wi_445_203 rfl ?_
          refine wp_jn (B := fun p49 : cS => ∀ lv, rx_ld lv 0 = some (.ref 174) → rx_ld lv 1 = some (.int a1) → rs (rt_P sc fm) 445 F Lo 213 lv [] (hq false p49 y w) Q) h (fun p49 h lv l0 l1 => ?_) (fun j213 hj213 h => ?_)
          ·
            refine rs_aldn wi_445_213 l0 ?_
            refine dq_gr wi_445_214 wf_445_137 tf_174_31 ?_
            refine rs_ildn wi_445_217 l1 ?_
            obtain ⟨g50, h⟩ := wp_gd h
            refine dq_iald wi_445_218 t_195 g50 ?_
            refine rs_pure wi_445_219 rfl ?_
            refine rs_topi (v := 4) (by decide) ?_
            refine rs_pure wi_445_220 rfl ?_
            refine wp_jn (B := fun p51 : cS => ∀ lv, rx_ld lv 0 = some (.ref 174) → rx_ld lv 1 = some (.int a1) → rs (rt_P sc fm) 445 F Lo 230 lv [] (hq false p51 y w) Q) h (fun p51 h lv l0 l1 => ?_) (fun j230 hj230 h => ?_)
            ·
              refine rs_aldn wi_445_230 l0 ?_
              refine dq_gr wi_445_231 wf_445_137 tf_174_31 ?_
              refine rs_ildn wi_445_234 l1 ?_
              obtain ⟨g52, h⟩ := wp_gd h
              refine dq_iald wi_445_235 t_195 g52 ?_
              refine rs_pure wi_445_236 rfl ?_
              refine rs_topi (v := 8) (by decide) ?_
              refine rs_pure wi_445_238 rfl ?_
              refine rs_ifeq (tg := 248) wi_445_239 ⟨by decide, by decide⟩ (fun q => ?_) (fun q => ?_)
              ·
                have h := wp_pos h q
                exact hj248 _ h _ l0 l1
              ·
                have h := wp_neg h q
                refine rs_aldn wi_445_242 l0 ?_
                refine rs_ldcS wi_445_243 wk_445_28 ?_
                refine rs_V wi_445_245 wc_445_402 rfl (dq_isa tf_174_0 wa_15_362) (Nat.le_trans (by decide) hF) (ml_le wm_362 (Nat.le_trans (by decide) hLo)) rfl (sp_362 hw (Nat.le_trans (by decide : 4 ≤ 8 - 1) (Nat.sub_le_sub_right hF 1)) (ml_sub wm_362 (Nat.le_trans (by decide : 85 ≤ 176 - 22) (Nat.sub_le_sub_right hLo 22))) (by decide +kernel) (wp_bind h) (fun r53 h => rs_back0 ?_))
                exact hj248 _ h _ l0 l1
            refine rs_ifeq (tg := 230) wi_445_221 ⟨by decide, by decide⟩ (fun q => ?_) (fun q => ?_)
            ·
              have h := wp_pos h q
              exact hj230 _ h _ l0 l1
            ·
              have h := wp_neg h q
              refine rs_aldn wi_445_224 l0 ?_
              refine rs_ldcS wi_445_225 wk_445_26 ?_
              refine rs_V wi_445_227 wc_445_402 rfl (dq_isa tf_174_0 wa_15_362) (Nat.le_trans (by decide) hF) (ml_le wm_362 (Nat.le_trans (by decide) hLo)) rfl (sp_362 hw (Nat.le_trans (by decide : 4 ≤ 8 - 1) (Nat.sub_le_sub_right hF 1)) (ml_sub wm_362 (Nat.le_trans (by decide : 85 ≤ 176 - 22) (Nat.sub_le_sub_right hLo 22))) (by decide +kernel) (wp_bind h) (fun r54 h => rs_back0 ?_))
              exact hj230 _ h _ l0 l1
          refine rs_ifeq (tg := 213) wi_445_204 ⟨by decide, by decide⟩ (fun q => ?_) (fun q => ?_)
          ·
            have h := wp_pos h q
            exact hj213 _ h _ l0 l1
          ·
            have h := wp_neg h q
            refine rs_aldn wi_445_207 l0 ?_
            refine rs_ldcS wi_445_208 wk_445_24 ?_
            refine rs_V wi_445_210 wc_445_402 rfl (dq_isa tf_174_0 wa_15_362) (Nat.le_trans (by decide) hF) (ml_le wm_362 (Nat.le_trans (by decide) hLo)) rfl (sp_362 hw (Nat.le_trans (by decide : 4 ≤ 8 - 1) (Nat.sub_le_sub_right hF 1)) (ml_sub wm_362 (Nat.le_trans (by decide : 85 ≤ 176 - 22) (Nat.sub_le_sub_right hLo 22))) (by decide +kernel) (wp_bind h) (fun r55 h => rs_back0 ?_))
            exact hj213 _ h _ l0 l1
        refine rs_ifeq (tg := 196) wi_445_187 ⟨by decide, by decide⟩ (fun q => ?_) (fun q => ?_)
        ·
          have h := wp_pos h q
          exact hj196 _ h _ l0 l1
        ·
          have h := wp_neg h q
          refine rs_aldn wi_445_190 l0 ?_
          refine rs_ldcS wi_445_191 wk_445_22 ?_
          refine rs_V wi_445_193 wc_445_402 rfl (dq_isa tf_174_0 wa_15_362) (Nat.le_trans (by decide) hF) (ml_le wm_362 (Nat.le_trans (by decide) hLo)) rfl (sp_362 hw (Nat.le_trans (by decide : 4 ≤ 8 - 1) (Nat.sub_le_sub_right hF 1)) (ml_sub wm_362 (Nat.le_trans (by decide : 85 ≤ 176 - 22) (Nat.sub_le_sub_right hLo 22))) (by decide +kernel) (wp_bind h) (fun r56 h => rs_back0 ?_))
          exact hj196 _ h _ l0 l1
    refine rs_ifle (tg := 162) wi_445_152 ⟨by decide, by decide⟩ (fun q => ?_) (fun q => ?_)
    ·
      have h := wp_pos h q
      exact hj162 _ h _ l0 l1
    ·
      have h := wp_neg h q
      refine rs_aldn wi_445_155 l0 ?_
      refine rs_ldcwS wi_445_156 wk_445_786 ?_
      refine rs_V wi_445_159 wc_445_402 rfl (dq_isa tf_174_0 wa_15_362) (Nat.le_trans (by decide) hF) (ml_le wm_362 (Nat.le_trans (by decide) hLo)) rfl (sp_362 hw (Nat.le_trans (by decide : 4 ≤ 8 - 1) (Nat.sub_le_sub_right hF 1)) (ml_sub wm_362 (Nat.le_trans (by decide : 85 ≤ 176 - 22) (Nat.sub_le_sub_right hLo 22))) (by decide +kernel) (wp_bind h) (fun r57 h => rs_back0 ?_))
      exact hj162 _ h _ l0 l1
theorem wc_448_402 : rx_ct (rt_P sc fm) 448 402 = some (0, 362, 1) := (by decide +kernel : rt_ct 448 402 = some (0, 362, 1))
theorem wc_448_765 : rx_ct (rt_P sc fm) 448 765 = some (0, 363, 1) := (by decide +kernel : rt_ct 448 765 = some (0, 363, 1))
theorem wf_448_100 : rx_ft (rt_P sc fm) 448 100 = some (15, 18) := (by decide +kernel : rt_ft 448 100 = some (15, 18))
theorem wf_448_94 : rx_ft (rt_P sc fm) 448 94 = some (15, 16) := (by decide +kernel : rt_ft 448 94 = some (15, 16))
theorem wi_448_0 : ri (rt_P sc fm) 448 0 (.aload_n 0) (1) := ri_of (by decide +kernel) rfl
theorem wi_448_1 : ri (rt_P sc fm) 448 1 (.aload_n 0) (2) := ri_of (by decide +kernel) rfl
theorem wi_448_10 : ri (rt_P sc fm) 448 10 (.aload_n 0) (11) := ri_of (by decide +kernel) rfl
theorem wi_448_11 : ri (rt_P sc fm) 448 11 (.ldc_w 768) (14) := ri_of (by decide +kernel) rfl
theorem wi_448_14 : ri (rt_P sc fm) 448 14 (.invokevirtual 402) (17) := ri_of (by decide +kernel) rfl
theorem wi_448_17 : ri (rt_P sc fm) 448 17 (.aload_n 0) (18) := ri_of (by decide +kernel) rfl
theorem wi_448_18 : ri (rt_P sc fm) 448 18 (.aload_n 0) (19) := ri_of (by decide +kernel) rfl
theorem wi_448_19 : ri (rt_P sc fm) 448 19 (.getfield 100) (22) := ri_of (by decide +kernel) rfl
theorem wi_448_2 : ri (rt_P sc fm) 448 2 (.getfield 94) (5) := ri_of (by decide +kernel) rfl
theorem wi_448_22 : ri (rt_P sc fm) 448 22 (.bipush 12) (24) := ri_of (by decide +kernel) rfl
theorem wi_448_24 : ri (rt_P sc fm) 448 24 (.iload_n 1) (25) := ri_of (by decide +kernel) rfl
theorem wi_448_25 : ri (rt_P sc fm) 448 25 (.imul) (26) := ri_of (by decide +kernel) rfl
theorem wi_448_26 : ri (rt_P sc fm) 448 26 (.iload_n 2) (27) := ri_of (by decide +kernel) rfl
theorem wi_448_27 : ri (rt_P sc fm) 448 27 (.iadd) (28) := ri_of (by decide +kernel) rfl
theorem wi_448_28 : ri (rt_P sc fm) 448 28 (.laload) (29) := ri_of (by decide +kernel) rfl
theorem wi_448_29 : ri (rt_P sc fm) 448 29 (.invokevirtual 765) (32) := ri_of (by decide +kernel) rfl
theorem wi_448_32 : ri (rt_P sc fm) 448 32 (.return_) (33) := ri_of (by decide +kernel) rfl
theorem wi_448_5 : ri (rt_P sc fm) 448 5 (.iload_n 1) (6) := ri_of (by decide +kernel) rfl
theorem wi_448_6 : ri (rt_P sc fm) 448 6 (.laload) (7) := ri_of (by decide +kernel) rfl
theorem wi_448_7 : ri (rt_P sc fm) 448 7 (.invokevirtual 765) (10) := ri_of (by decide +kernel) rfl
theorem wk_448_768 : rx_kt (rt_P sc fm) 448 768 = some (.ref (rx_K 50)) := (by decide +kernel : rt_kt 448 768 = some (.ref (rx_K 50)))
theorem wr_448 : rx_rt (rt_P sc fm) 448 = none := (by decide +kernel : rt_rt 448 = none)
/-- MarkHouseModel.sayElement(II)V -/
def d_448 (n : Nat) (a1 : Int32) (a2 : Int32) (c : cS) : Option (cS) :=
  if ib a1 4 then
  Option.bind (d_363 n (c.2 181 (ix a1)) c) (fun r2 =>
  Option.bind (d_362 n 50 r2) (fun r3 =>
  if ib ((12 * a1) + a2) 48 then
  Option.bind (d_363 n (r3.2 183 (ix ((12 * a1) + a2))) r3) (fun r5 =>
  some r5)
  else none))
  else none
theorem sp_448 {F Lo n : Nat} {a1 : Int32} {a2 : Int32} {c y : cS} {w : cW} {K : cS → Prop} {Q : ((Option Value) ⊕ String) → List va_E → Prop} (hw : rOK fm w) (hF : 5 ≤ F) (hLo : 107 ≤ Lo)  (h : wp (d_448 n a1 a2 c) K) (hQ : ∀ r, K r → Q (.inl none) (hq false r y w)) : rs (rt_P sc fm) 448 F Lo 0 [(0, .ref 174), (1, .int a1), (2, .int a2)] [] (hq false c y w) Q := by
  unfold d_448 at h
  obtain ⟨lv, elv⟩ : ∃ lv : rx_L, lv = [(0, .ref 174), (1, .int a1), (2, .int a2)] := ⟨_, rfl⟩
  rw [← elv]
  have l0 : rx_ld lv 0 = some (.ref 174) := by rw [elv]; rfl
  have l1 : rx_ld lv 1 = some (.int a1) := by rw [elv]; rfl
  have l2 : rx_ld lv 2 = some (.int a2) := by rw [elv]; rfl
  refine rs_aldn wi_448_0 l0 ?_
  refine rs_aldn wi_448_1 l0 ?_
  refine dq_gr wi_448_2 wf_448_94 tf_174_16 ?_
  refine rs_ildn wi_448_5 l1 ?_
  obtain ⟨g1, h⟩ := wp_gd h
  refine dq_lald wi_448_6 t_181 g1 ?_
  refine rs_V wi_448_7 wc_448_765 rfl (dq_isa tf_174_0 wa_15_363) (Nat.le_trans (by decide) hF) (ml_le wm_363 (Nat.le_trans (by decide) hLo)) rfl (sp_363 hw (Nat.le_trans (by decide : 2 ≤ 5 - 1) (Nat.sub_le_sub_right hF 1)) (ml_sub wm_363 (Nat.le_trans (by decide : 44 ≤ 107 - 22) (Nat.sub_le_sub_right hLo 22))) (wp_bind h) (fun r2 h => rs_back0 ?_))
  refine rs_aldn wi_448_10 l0 ?_
  refine rs_ldcwS wi_448_11 wk_448_768 ?_
  refine rs_V wi_448_14 wc_448_402 rfl (dq_isa tf_174_0 wa_15_362) (Nat.le_trans (by decide) hF) (ml_le wm_362 (Nat.le_trans (by decide) hLo)) rfl (sp_362 hw (Nat.le_trans (by decide : 4 ≤ 5 - 1) (Nat.sub_le_sub_right hF 1)) (ml_sub wm_362 (Nat.le_trans (by decide : 85 ≤ 107 - 22) (Nat.sub_le_sub_right hLo 22))) (by decide +kernel) (wp_bind h) (fun r3 h => rs_back0 ?_))
  refine rs_aldn wi_448_17 l0 ?_
  refine rs_aldn wi_448_18 l0 ?_
  refine dq_gr wi_448_19 wf_448_100 tf_174_18 ?_
  refine rs_pure wi_448_22 rfl ?_
  refine rs_topi (v := 12) (by decide) ?_
  refine rs_ildn wi_448_24 l1 ?_
  refine rs_pure wi_448_25 rfl ?_
  refine rs_ildn wi_448_26 l2 ?_
  refine rs_pure wi_448_27 rfl ?_
  obtain ⟨g4, h⟩ := wp_gd h
  refine dq_lald wi_448_28 t_183 g4 ?_
  refine rs_V wi_448_29 wc_448_765 rfl (dq_isa tf_174_0 wa_15_363) (Nat.le_trans (by decide) hF) (ml_le wm_363 (Nat.le_trans (by decide) hLo)) rfl (sp_363 hw (Nat.le_trans (by decide : 2 ≤ 5 - 1) (Nat.sub_le_sub_right hF 1)) (ml_sub wm_363 (Nat.le_trans (by decide : 44 ≤ 107 - 22) (Nat.sub_le_sub_right hLo 22))) (wp_bind h) (fun r5 h => rs_back0 ?_))
  exact rs_vret wi_448_32 wr_448 (hQ r5 h)
theorem t_250 : ta false 250 0 61440 := ⟨rfl, by decide, by decide⟩
theorem tf_174_107 : fo false 174 15 107 (.ref 250) := ⟨_, rfl, rfl, by decide, by decide⟩
theorem wf_464_308 : rx_ft (rt_P sc fm) 464 308 = some (15, 107) := (by decide +kernel : rt_ft 464 308 = some (15, 107))
theorem wf_464_894 : rx_ft (rt_P sc fm) 464 894 = some (15, 106) := (by decide +kernel : rt_ft 464 894 = some (15, 106))
theorem wi_464_0 : ri (rt_P sc fm) 464 0 (.iconst 0) (1) := ri_of (by decide +kernel) rfl
theorem wi_464_1 : ri (rt_P sc fm) 464 1 (.istore_n 2) (2) := ri_of (by decide +kernel) rfl
theorem wi_464_10 : ri (rt_P sc fm) 464 10 (.aload_n 0) (11) := ri_of (by decide +kernel) rfl
theorem wi_464_11 : ri (rt_P sc fm) 464 11 (.getfield 894) (14) := ri_of (by decide +kernel) rfl
theorem wi_464_14 : ri (rt_P sc fm) 464 14 (.ifCond .eq 31) (17) := ri_of (by decide +kernel) rfl
theorem wi_464_17 : ri (rt_P sc fm) 464 17 (.iload_n 2) (18) := ri_of (by decide +kernel) rfl
theorem wi_464_18 : ri (rt_P sc fm) 464 18 (.aload_n 0) (19) := ri_of (by decide +kernel) rfl
theorem wi_464_19 : ri (rt_P sc fm) 464 19 (.getfield 308) (22) := ri_of (by decide +kernel) rfl
theorem wi_464_2 : ri (rt_P sc fm) 464 2 (.iconst 0) (3) := ri_of (by decide +kernel) rfl
theorem wi_464_22 : ri (rt_P sc fm) 464 22 (.bipush 16) (24) := ri_of (by decide +kernel) rfl
theorem wi_464_24 : ri (rt_P sc fm) 464 24 (.iload_n 1) (25) := ri_of (by decide +kernel) rfl
theorem wi_464_25 : ri (rt_P sc fm) 464 25 (.imul) (26) := ri_of (by decide +kernel) rfl
theorem wi_464_26 : ri (rt_P sc fm) 464 26 (.iload_n 3) (27) := ri_of (by decide +kernel) rfl
theorem wi_464_27 : ri (rt_P sc fm) 464 27 (.iadd) (28) := ri_of (by decide +kernel) rfl
theorem wi_464_28 : ri (rt_P sc fm) 464 28 (.iaload) (29) := ri_of (by decide +kernel) rfl
theorem wi_464_29 : ri (rt_P sc fm) 464 29 (.ifCond .lt 7) (32) := ri_of (by decide +kernel) rfl
theorem wi_464_3 : ri (rt_P sc fm) 464 3 (.istore_n 3) (4) := ri_of (by decide +kernel) rfl
theorem wi_464_32 : ri (rt_P sc fm) 464 32 (.iconst 1) (33) := ri_of (by decide +kernel) rfl
theorem wi_464_33 : ri (rt_P sc fm) 464 33 (.goto 4) (36) := ri_of (by decide +kernel) rfl
theorem wi_464_36 : ri (rt_P sc fm) 464 36 (.iconst 0) (37) := ri_of (by decide +kernel) rfl
theorem wi_464_37 : ri (rt_P sc fm) 464 37 (.iadd) (38) := ri_of (by decide +kernel) rfl
theorem wi_464_38 : ri (rt_P sc fm) 464 38 (.istore_n 2) (39) := ri_of (by decide +kernel) rfl
theorem wi_464_39 : ri (rt_P sc fm) 464 39 (.iinc 3 1) (42) := ri_of (by decide +kernel) rfl
theorem wi_464_4 : ri (rt_P sc fm) 464 4 (.iload_n 3) (5) := ri_of (by decide +kernel) rfl
theorem wi_464_42 : ri (rt_P sc fm) 464 42 (.goto (-38)) (45) := ri_of (by decide +kernel) rfl
theorem wi_464_45 : ri (rt_P sc fm) 464 45 (.iload_n 2) (46) := ri_of (by decide +kernel) rfl
theorem wi_464_46 : ri (rt_P sc fm) 464 46 (.ireturn) (47) := ri_of (by decide +kernel) rfl
theorem wi_464_5 : ri (rt_P sc fm) 464 5 (.bipush 16) (7) := ri_of (by decide +kernel) rfl
theorem wi_464_7 : ri (rt_P sc fm) 464 7 (.if_icmp .ge 38) (10) := ri_of (by decide +kernel) rfl
theorem wr_464 : rx_rt (rt_P sc fm) 464 = (some FieldType.int) := (by decide +kernel : rt_rt 464 = (some FieldType.int))
/-- MarkHouseModel.checksOf(I)I -/
def d_464 (n : Nat) (a1 : Int32) (c : cS) : Option (Int32) :=
  Option.bind (whl (R := (Int32)) (fun s3 : Int32 × Int32 =>
    if 16 ≤ s3.2 then
      some (.inr s3.1)
    else
      if (c.1 174 106) = 0 then
        some (.inr s3.1)
      else
        if ib ((16 * a1) + s3.2) 61440 then
        jn (fun p5 : Int32 =>
          lt ((s3.1 + p5) : Int32) (fun v7 =>
          lt (s3.2 + 1 : Int32) (fun v10 =>
          some (.inl (v7, v10)))))
        (fun j37 =>
        if (c.1 250 (ix ((16 * a1) + s3.2))) < 0 then
          j37 0
        else
          j37 1)
        else none) n (0, 0))
  (fun x12 : Int32 =>
    some x12)
theorem sp_464 {F Lo n : Nat} {a1 : Int32} {c y : cS} {w : cW} {K : Int32 → Prop} {Q : ((Option Value) ⊕ String) → List va_E → Prop} (hw : rOK fm w) (hF : 0 ≤ F) (hLo : 0 ≤ Lo)  (h : wp (d_464 n a1 c) K) (hQ : ∀ r, K r → Q (.inl (some (.int r))) (hq false c y w)) : rs (rt_P sc fm) 464 F Lo 0 [(0, .ref 174), (1, .int a1)] [] (hq false c y w) Q := by
  unfold d_464 at h
  obtain ⟨lv, elv⟩ : ∃ lv : rx_L, lv = [(0, .ref 174), (1, .int a1)] := ⟨_, rfl⟩
  rw [← elv]
  have l0 : rx_ld lv 0 = some (.ref 174) := by rw [elv]; rfl
  have l1 : rx_ld lv 1 = some (.int a1) := by rw [elv]; rfl
  refine rs_pure wi_464_0 rfl ?_
  refine rs_topi (v := 0) (by decide) ?_
  refine dl_istn wi_464_1 rfl (fun lv l2 t1 => ?_)
  have l0 := t1 _ _ (by decide) (Or.inl rfl) l0
  have l1 := t1 _ _ (by decide) (Or.inl rfl) l1
  refine rs_pure wi_464_2 rfl ?_
  refine rs_topi (v := 0) (by decide) ?_
  refine dl_istn wi_464_3 rfl (fun lv l3 t2 => ?_)
  have l0 := t2 _ _ (by decide) (Or.inl rfl) l0
  have l1 := t2 _ _ (by decide) (Or.inl rfl) l1
  have l2 := t2 _ _ (by decide) (Or.inl rfl) l2
  refine whl_ex (A := fun s3 : Int32 × Int32 => ∀ lv, rx_ld lv 0 = some (.ref 174) → rx_ld lv 1 = some (.int a1) → rx_ld lv 2 = some (.int s3.1) → rx_ld lv 3 = some (.int s3.2) → rs (rt_P sc fm) 464 F Lo 4 lv [] (hq false c y w) Q) (B := (fun x12 : Int32 => ∀ lv, rx_ld lv 2 = some (.int x12) → rs (rt_P sc fm) 464 F Lo 45 lv [] (hq false c y w) Q)) ?_ ?_ _ _ (wp_bind h) _ l0 l1 l2 l3
  · intro s3 h lv l0 l1 l2 l3
    refine rs_ildn wi_464_4 l3 ?_
    refine rs_pure wi_464_5 rfl ?_
    refine rs_topi (v := 16) (by decide) ?_
    refine rs_icge (tg := 45) wi_464_7 ⟨by decide, by decide⟩ (fun q => ?_) (fun q => ?_)
    ·
      have h := wp_pos h q
      exact h _ l2
    ·
      have h := wp_neg h q
      refine rs_aldn wi_464_10 l0 ?_
      refine dq_gi wi_464_11 wf_464_894 tf_174_106 ?_
      refine rs_ifeq (tg := 45) wi_464_14 ⟨by decide, by decide⟩ (fun q => ?_) (fun q => ?_)
      ·
        have h := wp_pos h q
        exact h _ l2
      ·
        have h := wp_neg h q
        refine rs_ildn wi_464_17 l2 ?_
        refine rs_aldn wi_464_18 l0 ?_
        refine dq_gr wi_464_19 wf_464_308 tf_174_107 ?_
        refine rs_pure wi_464_22 rfl ?_
        refine rs_topi (v := 16) (by decide) ?_
        refine rs_ildn wi_464_24 l1 ?_
        refine rs_pure wi_464_25 rfl ?_
        refine rs_ildn wi_464_26 l3 ?_
        refine rs_pure wi_464_27 rfl ?_
        obtain ⟨g4, h⟩ := wp_gd h
        refine dq_iald wi_464_28 t_250 g4 ?_
        refine wp_jn (B := fun p5 : Int32 => ∀ lv, rx_ld lv 0 = some (.ref 174) → rx_ld lv 1 = some (.int a1) → rx_ld lv 3 = some (.int s3.2) → rs (rt_P sc fm) 464 F Lo 37 lv [.int p5, .int s3.1] (hq false c y w) Q) h (fun p5 h lv l0 l1 l3 => ?_) (fun j37 hj37 h => ?_)
        ·
          refine rs_pure wi_464_37 rfl ?_
          obtain ⟨v7, e8, h⟩ := wp_lt h
          refine rs_topi e8 ?_
          refine dl_istn wi_464_38 rfl (fun lv l2 t6 => ?_)
          have l0 := t6 _ _ (by decide) (Or.inl rfl) l0
          have l1 := t6 _ _ (by decide) (Or.inl rfl) l1
          have l3 := t6 _ _ (by decide) (Or.inl rfl) l3
          obtain ⟨v10, e11, h⟩ := wp_lt h
          refine dl_inc wi_464_39 l3 rfl e11 (fun lv l3 t9 => ?_)
          have l0 := t9 _ _ (by decide) (Or.inl rfl) l0
          have l1 := t9 _ _ (by decide) (Or.inl rfl) l1
          have l2 := t9 _ _ (by decide) (Or.inl rfl) l2
          refine rs_goto (tg := 4) wi_464_42 ⟨by decide, by decide⟩ ?_
          exact h _ l0 l1 l2 l3
        refine rs_iflt (tg := 36) wi_464_29 ⟨by decide, by decide⟩ (fun q => ?_) (fun q => ?_)
        ·
          have h := wp_pos h q
          refine rs_pure wi_464_36 rfl ?_
          refine rs_topi (v := 0) (by decide) ?_
          exact hj37 _ h _ l0 l1 l3
        ·
          have h := wp_neg h q
          refine rs_pure wi_464_32 rfl ?_
          refine rs_topi (v := 1) (by decide) ?_
          refine rs_goto (tg := 37) wi_464_33 ⟨by decide, by decide⟩ ?_
          exact hj37 _ h _ l0 l1 l3
  ·
    intro x12 h lv l2
    refine rs_ildn wi_464_45 l2 ?_
    exact rs_iret wi_464_46 wr_464 rfl (hQ x12 h)
theorem wa_15_464 : rz_cn 15 (rx_yn (rt_P sc fm) 464).cls = true := (by decide +kernel : rz_cn 15 (rt_yn 464).cls = true)
theorem wc_465_906 : rx_ct (rt_P sc fm) 465 906 = some (0, 464, 1) := (by decide +kernel : rt_ct 465 906 = some (0, 464, 1))
theorem wi_465_0 : ri (rt_P sc fm) 465 0 (.iload_n 2) (1) := ri_of (by decide +kernel) rfl
theorem wi_465_1 : ri (rt_P sc fm) 465 1 (.istore 4) (3) := ri_of (by decide +kernel) rfl
theorem wi_465_12 : ri (rt_P sc fm) 465 12 (.iload_n 3) (13) := ri_of (by decide +kernel) rfl
theorem wi_465_13 : ri (rt_P sc fm) 465 13 (.ifCond .eq 25) (16) := ri_of (by decide +kernel) rfl
theorem wi_465_16 : ri (rt_P sc fm) 465 16 (.iload 4) (18) := ri_of (by decide +kernel) rfl
theorem wi_465_18 : ri (rt_P sc fm) 465 18 (.aload_n 0) (19) := ri_of (by decide +kernel) rfl
theorem wi_465_19 : ri (rt_P sc fm) 465 19 (.bipush 40) (21) := ri_of (by decide +kernel) rfl
theorem wi_465_21 : ri (rt_P sc fm) 465 21 (.iload_n 1) (22) := ri_of (by decide +kernel) rfl
theorem wi_465_22 : ri (rt_P sc fm) 465 22 (.imul) (23) := ri_of (by decide +kernel) rfl
theorem wi_465_23 : ri (rt_P sc fm) 465 23 (.iload 5) (25) := ri_of (by decide +kernel) rfl
theorem wi_465_25 : ri (rt_P sc fm) 465 25 (.iadd) (26) := ri_of (by decide +kernel) rfl
theorem wi_465_26 : ri (rt_P sc fm) 465 26 (.invokevirtual 906) (29) := ri_of (by decide +kernel) rfl
theorem wi_465_29 : ri (rt_P sc fm) 465 29 (.iadd) (30) := ri_of (by decide +kernel) rfl
theorem wi_465_3 : ri (rt_P sc fm) 465 3 (.iconst 0) (4) := ri_of (by decide +kernel) rfl
theorem wi_465_30 : ri (rt_P sc fm) 465 30 (.istore 4) (32) := ri_of (by decide +kernel) rfl
theorem wi_465_32 : ri (rt_P sc fm) 465 32 (.iinc 5 1) (35) := ri_of (by decide +kernel) rfl
theorem wi_465_35 : ri (rt_P sc fm) 465 35 (.goto (-29)) (38) := ri_of (by decide +kernel) rfl
theorem wi_465_38 : ri (rt_P sc fm) 465 38 (.iload 4) (40) := ri_of (by decide +kernel) rfl
theorem wi_465_4 : ri (rt_P sc fm) 465 4 (.istore 5) (6) := ri_of (by decide +kernel) rfl
theorem wi_465_40 : ri (rt_P sc fm) 465 40 (.ireturn) (41) := ri_of (by decide +kernel) rfl
theorem wi_465_6 : ri (rt_P sc fm) 465 6 (.iload 5) (8) := ri_of (by decide +kernel) rfl
theorem wi_465_8 : ri (rt_P sc fm) 465 8 (.iload_n 2) (9) := ri_of (by decide +kernel) rfl
theorem wi_465_9 : ri (rt_P sc fm) 465 9 (.if_icmp .ge 29) (12) := ri_of (by decide +kernel) rfl
theorem wm_464 : rx_ml (rt_P sc fm) 464 = 4 := (by decide +kernel : rt_ml 464 = 4)
theorem wr_465 : rx_rt (rt_P sc fm) 465 = (some FieldType.int) := (by decide +kernel : rt_rt 465 = (some FieldType.int))
/-- MarkHouseModel.numberOf(IIZ)I -/
def d_465 (n : Nat) (a1 : Int32) (a2 : Int32) (a3 : Int32) (c : cS) : Option (Int32) :=
  Option.bind (whl (R := (Int32)) (fun s3 : Int32 × Int32 =>
    if a2 ≤ s3.2 then
      some (.inr s3.1)
    else
      if a3 = 0 then
        some (.inr s3.1)
      else
        Option.bind (d_464 n ((40 * a1) + s3.2) c) (fun v4 =>
        lt ((s3.1 + v4) : Int32) (fun v6 =>
        lt (s3.2 + 1 : Int32) (fun v9 =>
        some (.inl (v6, v9)))))) n (a2, 0))
  (fun x11 : Int32 =>
    some x11)
theorem sp_465 {F Lo n : Nat} {a1 : Int32} {a2 : Int32} {a3 : Int32} {c y : cS} {w : cW} {K : Int32 → Prop} {Q : ((Option Value) ⊕ String) → List va_E → Prop} (hw : rOK fm w) (hF : 1 ≤ F) (hLo : 23 ≤ Lo)  (h : wp (d_465 n a1 a2 a3 c) K) (hQ : ∀ r, K r → Q (.inl (some (.int r))) (hq false c y w)) : rs (rt_P sc fm) 465 F Lo 0 [(0, .ref 174), (1, .int a1), (2, .int a2), (3, .int a3)] [] (hq false c y w) Q := by
  unfold d_465 at h
  obtain ⟨lv, elv⟩ : ∃ lv : rx_L, lv = [(0, .ref 174), (1, .int a1), (2, .int a2), (3, .int a3)] := ⟨_, rfl⟩
  rw [← elv]
  have l0 : rx_ld lv 0 = some (.ref 174) := by rw [elv]; rfl
  have l1 : rx_ld lv 1 = some (.int a1) := by rw [elv]; rfl
  have l2 : rx_ld lv 2 = some (.int a2) := by rw [elv]; rfl
  have l3 : rx_ld lv 3 = some (.int a3) := by rw [elv]; rfl
  refine rs_ildn wi_465_0 l2 ?_
  refine dl_ist wi_465_1 rfl (fun lv l4 t1 => ?_)
  have l0 := t1 _ _ (by decide) (Or.inl rfl) l0
  have l1 := t1 _ _ (by decide) (Or.inl rfl) l1
  have l2 := t1 _ _ (by decide) (Or.inl rfl) l2
  have l3 := t1 _ _ (by decide) (Or.inl rfl) l3
  refine rs_pure wi_465_3 rfl ?_
  refine rs_topi (v := 0) (by decide) ?_
  refine dl_ist wi_465_4 rfl (fun lv l5 t2 => ?_)
  have l0 := t2 _ _ (by decide) (Or.inl rfl) l0
  have l1 := t2 _ _ (by decide) (Or.inl rfl) l1
  have l2 := t2 _ _ (by decide) (Or.inl rfl) l2
  have l3 := t2 _ _ (by decide) (Or.inl rfl) l3
  have l4 := t2 _ _ (by decide) (Or.inl rfl) l4
  refine whl_ex (A := fun s3 : Int32 × Int32 => ∀ lv, rx_ld lv 0 = some (.ref 174) → rx_ld lv 1 = some (.int a1) → rx_ld lv 2 = some (.int a2) → rx_ld lv 3 = some (.int a3) → rx_ld lv 4 = some (.int s3.1) → rx_ld lv 5 = some (.int s3.2) → rs (rt_P sc fm) 465 F Lo 6 lv [] (hq false c y w) Q) (B := (fun x11 : Int32 => ∀ lv, rx_ld lv 4 = some (.int x11) → rs (rt_P sc fm) 465 F Lo 38 lv [] (hq false c y w) Q)) ?_ ?_ _ _ (wp_bind h) _ l0 l1 l2 l3 l4 l5
  · intro s3 h lv l0 l1 l2 l3 l4 l5
    refine rs_ild wi_465_6 l5 ?_
    refine rs_ildn wi_465_8 l2 ?_
    refine rs_icge (tg := 38) wi_465_9 ⟨by decide, by decide⟩ (fun q => ?_) (fun q => ?_)
    ·
      have h := wp_pos h q
      exact h _ l4
    ·
      have h := wp_neg h q
      refine rs_ildn wi_465_12 l3 ?_
      refine rs_ifeq (tg := 38) wi_465_13 ⟨by decide, by decide⟩ (fun q => ?_) (fun q => ?_)
      ·
        have h := wp_pos h q
        exact h _ l4
      ·
        have h := wp_neg h q
        refine rs_ild wi_465_16 l4 ?_
        refine rs_aldn wi_465_18 l0 ?_
        refine rs_pure wi_465_19 rfl ?_
        refine rs_topi (v := 40) (by decide) ?_
        refine rs_ildn wi_465_21 l1 ?_
        refine rs_pure wi_465_22 rfl ?_
        refine rs_ild wi_465_23 l5 ?_
        refine rs_pure wi_465_25 rfl ?_
        refine rs_V wi_465_26 wc_465_906 rfl (dq_isa tf_174_0 wa_15_464) (Nat.le_trans (by decide) hF) (ml_le wm_464 (Nat.le_trans (by decide) hLo)) rfl (sp_464 hw (Nat.le_trans (by decide : 0 ≤ 1 - 1) (Nat.sub_le_sub_right hF 1)) (ml_sub wm_464 (Nat.le_trans (by decide : 0 ≤ 23 - 23) (Nat.sub_le_sub_right hLo 23))) (wp_bind h) (fun v4 h => rs_back1 ?_))
        refine rs_pure wi_465_29 rfl ?_
        obtain ⟨v6, e7, h⟩ := wp_lt h
        refine rs_topi e7 ?_
        refine dl_ist wi_465_30 rfl (fun lv l4 t5 => ?_)
        have l0 := t5 _ _ (by decide) (Or.inl rfl) l0
        have l1 := t5 _ _ (by decide) (Or.inl rfl) l1
        have l2 := t5 _ _ (by decide) (Or.inl rfl) l2
        have l3 := t5 _ _ (by decide) (Or.inl rfl) l3
        have l5 := t5 _ _ (by decide) (Or.inl rfl) l5
        obtain ⟨v9, e10, h⟩ := wp_lt h
        refine dl_inc wi_465_32 l5 rfl e10 (fun lv l5 t8 => ?_)
        have l0 := t8 _ _ (by decide) (Or.inl rfl) l0
        have l1 := t8 _ _ (by decide) (Or.inl rfl) l1
        have l2 := t8 _ _ (by decide) (Or.inl rfl) l2
        have l3 := t8 _ _ (by decide) (Or.inl rfl) l3
        have l4 := t8 _ _ (by decide) (Or.inl rfl) l4
        refine rs_goto (tg := 6) wi_465_35 ⟨by decide, by decide⟩ ?_
        exact h _ l0 l1 l2 l3 l4 l5
  ·
    intro x11 h lv l4
    refine rs_ild wi_465_38 l4 ?_
    exact rs_iret wi_465_40 wr_465 rfl (hQ x11 h)
theorem wa_15_448 : rz_cn 15 (rx_yn (rt_P sc fm) 448).cls = true := (by decide +kernel : rz_cn 15 (rt_yn 448).cls = true)
theorem wa_15_465 : rz_cn 15 (rx_yn (rt_P sc fm) 465).cls = true := (by decide +kernel : rz_cn 15 (rt_yn 465).cls = true)
theorem wc_447_402 : rx_ct (rt_P sc fm) 447 402 = some (0, 362, 1) := (by decide +kernel : rt_ct 447 402 = some (0, 362, 1))
theorem wc_447_406 : rx_ct (rt_P sc fm) 447 406 = some (0, 364, 1) := (by decide +kernel : rt_ct 447 406 = some (0, 364, 1))
theorem wc_447_765 : rx_ct (rt_P sc fm) 447 765 = some (0, 363, 1) := (by decide +kernel : rt_ct 447 765 = some (0, 363, 1))
theorem wc_447_783 : rx_ct (rt_P sc fm) 447 783 = some (0, 365, 1) := (by decide +kernel : rt_ct 447 783 = some (0, 365, 1))
theorem wc_447_813 : rx_ct (rt_P sc fm) 447 813 = some (0, 448, 2) := (by decide +kernel : rt_ct 447 813 = some (0, 448, 2))
theorem wc_447_816 : rx_ct (rt_P sc fm) 447 816 = some (0, 465, 3) := (by decide +kernel : rt_ct 447 816 = some (0, 465, 3))
theorem wf_447_152 : rx_ft (rt_P sc fm) 447 152 = some (15, 38) := (by decide +kernel : rt_ft 447 152 = some (15, 38))
theorem wf_447_164 : rx_ft (rt_P sc fm) 447 164 = some (15, 42) := (by decide +kernel : rt_ft 447 164 = some (15, 42))
theorem wf_447_170 : rx_ft (rt_P sc fm) 447 170 = some (15, 44) := (by decide +kernel : rt_ft 447 170 = some (15, 44))
theorem wf_447_179 : rx_ft (rt_P sc fm) 447 179 = some (15, 47) := (by decide +kernel : rt_ft 447 179 = some (15, 47))
theorem wf_447_185 : rx_ft (rt_P sc fm) 447 185 = some (15, 49) := (by decide +kernel : rt_ft 447 185 = some (15, 49))
theorem wf_447_188 : rx_ft (rt_P sc fm) 447 188 = some (15, 50) := (by decide +kernel : rt_ft 447 188 = some (15, 50))
theorem wf_447_194 : rx_ft (rt_P sc fm) 447 194 = some (15, 52) := (by decide +kernel : rt_ft 447 194 = some (15, 52))
theorem wf_447_197 : rx_ft (rt_P sc fm) 447 197 = some (15, 53) := (by decide +kernel : rt_ft 447 197 = some (15, 53))
theorem wf_447_200 : rx_ft (rt_P sc fm) 447 200 = some (15, 54) := (by decide +kernel : rt_ft 447 200 = some (15, 54))
theorem wf_447_209 : rx_ft (rt_P sc fm) 447 209 = some (15, 57) := (by decide +kernel : rt_ft 447 209 = some (15, 57))
theorem wf_447_212 : rx_ft (rt_P sc fm) 447 212 = some (15, 58) := (by decide +kernel : rt_ft 447 212 = some (15, 58))
theorem wf_447_215 : rx_ft (rt_P sc fm) 447 215 = some (15, 59) := (by decide +kernel : rt_ft 447 215 = some (15, 59))
theorem wf_447_240 : rx_ft (rt_P sc fm) 447 240 = some (15, 69) := (by decide +kernel : rt_ft 447 240 = some (15, 69))
theorem wf_447_80 : rx_ft (rt_P sc fm) 447 80 = some (15, 6) := (by decide +kernel : rt_ft 447 80 = some (15, 6))
theorem wi_447_0 : ri (rt_P sc fm) 447 0 (.aload_n 0) (1) := ri_of (by decide +kernel) rfl
theorem wi_447_1 : ri (rt_P sc fm) 447 1 (.aload_n 0) (2) := ri_of (by decide +kernel) rfl
theorem wi_447_10 : ri (rt_P sc fm) 447 10 (.iaload) (11) := ri_of (by decide +kernel) rfl
theorem wi_447_104 : ri (rt_P sc fm) 447 104 (.aload_n 0) (105) := ri_of (by decide +kernel) rfl
theorem wi_447_105 : ri (rt_P sc fm) 447 105 (.getfield 185) (108) := ri_of (by decide +kernel) rfl
theorem wi_447_108 : ri (rt_P sc fm) 447 108 (.iload_n 2) (109) := ri_of (by decide +kernel) rfl
theorem wi_447_109 : ri (rt_P sc fm) 447 109 (.iaload) (110) := ri_of (by decide +kernel) rfl
theorem wi_447_11 : ri (rt_P sc fm) 447 11 (.aaload) (12) := ri_of (by decide +kernel) rfl
theorem wi_447_110 : ri (rt_P sc fm) 447 110 (.bipush 14) (112) := ri_of (by decide +kernel) rfl
theorem wi_447_112 : ri (rt_P sc fm) 447 112 (.if_icmp .ne 13) (115) := ri_of (by decide +kernel) rfl
theorem wi_447_115 : ri (rt_P sc fm) 447 115 (.aload_n 0) (116) := ri_of (by decide +kernel) rfl
theorem wi_447_116 : ri (rt_P sc fm) 447 116 (.aload_n 0) (117) := ri_of (by decide +kernel) rfl
theorem wi_447_117 : ri (rt_P sc fm) 447 117 (.getfield 194) (120) := ri_of (by decide +kernel) rfl
theorem wi_447_12 : ri (rt_P sc fm) 447 12 (.invokevirtual 402) (15) := ri_of (by decide +kernel) rfl
theorem wi_447_120 : ri (rt_P sc fm) 447 120 (.iload_n 2) (121) := ri_of (by decide +kernel) rfl
theorem wi_447_121 : ri (rt_P sc fm) 447 121 (.iaload) (122) := ri_of (by decide +kernel) rfl
theorem wi_447_122 : ri (rt_P sc fm) 447 122 (.invokevirtual 783) (125) := ri_of (by decide +kernel) rfl
theorem wi_447_125 : ri (rt_P sc fm) 447 125 (.iconst 0) (126) := ri_of (by decide +kernel) rfl
theorem wi_447_126 : ri (rt_P sc fm) 447 126 (.istore 5) (128) := ri_of (by decide +kernel) rfl
theorem wi_447_128 : ri (rt_P sc fm) 447 128 (.iload 5) (130) := ri_of (by decide +kernel) rfl
theorem wi_447_130 : ri (rt_P sc fm) 447 130 (.aload_n 0) (131) := ri_of (by decide +kernel) rfl
theorem wi_447_131 : ri (rt_P sc fm) 447 131 (.getfield 209) (134) := ri_of (by decide +kernel) rfl
theorem wi_447_134 : ri (rt_P sc fm) 447 134 (.iload_n 2) (135) := ri_of (by decide +kernel) rfl
theorem wi_447_135 : ri (rt_P sc fm) 447 135 (.iaload) (136) := ri_of (by decide +kernel) rfl
theorem wi_447_136 : ri (rt_P sc fm) 447 136 (.if_icmp .ge 42) (139) := ri_of (by decide +kernel) rfl
theorem wi_447_139 : ri (rt_P sc fm) 447 139 (.aload_n 0) (140) := ri_of (by decide +kernel) rfl
theorem wi_447_140 : ri (rt_P sc fm) 447 140 (.ldc_w 763) (143) := ri_of (by decide +kernel) rfl
theorem wi_447_143 : ri (rt_P sc fm) 447 143 (.invokevirtual 402) (146) := ri_of (by decide +kernel) rfl
theorem wi_447_146 : ri (rt_P sc fm) 447 146 (.aload_n 0) (147) := ri_of (by decide +kernel) rfl
theorem wi_447_147 : ri (rt_P sc fm) 447 147 (.aload_n 0) (148) := ri_of (by decide +kernel) rfl
theorem wi_447_148 : ri (rt_P sc fm) 447 148 (.getfield 212) (151) := ri_of (by decide +kernel) rfl
theorem wi_447_15 : ri (rt_P sc fm) 447 15 (.aload_n 0) (16) := ri_of (by decide +kernel) rfl
theorem wi_447_151 : ri (rt_P sc fm) 447 151 (.iconst 4) (152) := ri_of (by decide +kernel) rfl
theorem wi_447_152 : ri (rt_P sc fm) 447 152 (.iload_n 2) (153) := ri_of (by decide +kernel) rfl
theorem wi_447_153 : ri (rt_P sc fm) 447 153 (.imul) (154) := ri_of (by decide +kernel) rfl
theorem wi_447_154 : ri (rt_P sc fm) 447 154 (.iload 5) (156) := ri_of (by decide +kernel) rfl
theorem wi_447_156 : ri (rt_P sc fm) 447 156 (.iadd) (157) := ri_of (by decide +kernel) rfl
theorem wi_447_157 : ri (rt_P sc fm) 447 157 (.iaload) (158) := ri_of (by decide +kernel) rfl
theorem wi_447_158 : ri (rt_P sc fm) 447 158 (.aload_n 0) (159) := ri_of (by decide +kernel) rfl
theorem wi_447_159 : ri (rt_P sc fm) 447 159 (.getfield 215) (162) := ri_of (by decide +kernel) rfl
theorem wi_447_16 : ri (rt_P sc fm) 447 16 (.getfield 185) (19) := ri_of (by decide +kernel) rfl
theorem wi_447_162 : ri (rt_P sc fm) 447 162 (.iconst 4) (163) := ri_of (by decide +kernel) rfl
theorem wi_447_163 : ri (rt_P sc fm) 447 163 (.iload_n 2) (164) := ri_of (by decide +kernel) rfl
theorem wi_447_164 : ri (rt_P sc fm) 447 164 (.imul) (165) := ri_of (by decide +kernel) rfl
theorem wi_447_165 : ri (rt_P sc fm) 447 165 (.iload 5) (167) := ri_of (by decide +kernel) rfl
theorem wi_447_167 : ri (rt_P sc fm) 447 167 (.iadd) (168) := ri_of (by decide +kernel) rfl
theorem wi_447_168 : ri (rt_P sc fm) 447 168 (.iaload) (169) := ri_of (by decide +kernel) rfl
theorem wi_447_169 : ri (rt_P sc fm) 447 169 (.invokevirtual 813) (172) := ri_of (by decide +kernel) rfl
theorem wi_447_172 : ri (rt_P sc fm) 447 172 (.iinc 5 1) (175) := ri_of (by decide +kernel) rfl
theorem wi_447_175 : ri (rt_P sc fm) 447 175 (.goto (-47)) (178) := ri_of (by decide +kernel) rfl
theorem wi_447_178 : ri (rt_P sc fm) 447 178 (.goto 130) (181) := ri_of (by decide +kernel) rfl
theorem wi_447_181 : ri (rt_P sc fm) 447 181 (.aload_n 0) (182) := ri_of (by decide +kernel) rfl
theorem wi_447_182 : ri (rt_P sc fm) 447 182 (.aload_n 0) (183) := ri_of (by decide +kernel) rfl
theorem wi_447_183 : ri (rt_P sc fm) 447 183 (.getfield 179) (186) := ri_of (by decide +kernel) rfl
theorem wi_447_186 : ri (rt_P sc fm) 447 186 (.bipush 8) (188) := ri_of (by decide +kernel) rfl
theorem wi_447_188 : ri (rt_P sc fm) 447 188 (.iload_n 1) (189) := ri_of (by decide +kernel) rfl
theorem wi_447_189 : ri (rt_P sc fm) 447 189 (.imul) (190) := ri_of (by decide +kernel) rfl
theorem wi_447_19 : ri (rt_P sc fm) 447 19 (.iload_n 2) (20) := ri_of (by decide +kernel) rfl
theorem wi_447_190 : ri (rt_P sc fm) 447 190 (.aload_n 0) (191) := ri_of (by decide +kernel) rfl
theorem wi_447_191 : ri (rt_P sc fm) 447 191 (.getfield 194) (194) := ri_of (by decide +kernel) rfl
theorem wi_447_194 : ri (rt_P sc fm) 447 194 (.iload_n 2) (195) := ri_of (by decide +kernel) rfl
theorem wi_447_195 : ri (rt_P sc fm) 447 195 (.iaload) (196) := ri_of (by decide +kernel) rfl
theorem wi_447_196 : ri (rt_P sc fm) 447 196 (.iadd) (197) := ri_of (by decide +kernel) rfl
theorem wi_447_197 : ri (rt_P sc fm) 447 197 (.laload) (198) := ri_of (by decide +kernel) rfl
theorem wi_447_198 : ri (rt_P sc fm) 447 198 (.invokevirtual 765) (201) := ri_of (by decide +kernel) rfl
theorem wi_447_2 : ri (rt_P sc fm) 447 2 (.getfield 80) (5) := ri_of (by decide +kernel) rfl
theorem wi_447_20 : ri (rt_P sc fm) 447 20 (.iaload) (21) := ri_of (by decide +kernel) rfl
theorem wi_447_201 : ri (rt_P sc fm) 447 201 (.goto 107) (204) := ri_of (by decide +kernel) rfl
theorem wi_447_204 : ri (rt_P sc fm) 447 204 (.aload_n 0) (205) := ri_of (by decide +kernel) rfl
theorem wi_447_205 : ri (rt_P sc fm) 447 205 (.aload_n 0) (206) := ri_of (by decide +kernel) rfl
theorem wi_447_206 : ri (rt_P sc fm) 447 206 (.getfield 152) (209) := ri_of (by decide +kernel) rfl
theorem wi_447_209 : ri (rt_P sc fm) 447 209 (.aload_n 0) (210) := ri_of (by decide +kernel) rfl
theorem wi_447_21 : ri (rt_P sc fm) 447 21 (.tableswitch 287 14 30 #[83, 83, 160, 160, 183, 183, 183, 287, 287, 287, 287, 287, 287, 287, 287, 268, 268]) (21 + rx_len (.tableswitch 287 14 30 #[83, 83, 160, 160, 183, 183, 183, 287, 287, 287, 287, 287, 287, 287, 287, 268, 268])) := ri_of (by decide +kernel) rfl
theorem wi_447_210 : ri (rt_P sc fm) 447 210 (.getfield 240) (213) := ri_of (by decide +kernel) rfl
theorem wi_447_213 : ri (rt_P sc fm) 447 213 (.iload_n 2) (214) := ri_of (by decide +kernel) rfl
theorem wi_447_214 : ri (rt_P sc fm) 447 214 (.iaload) (215) := ri_of (by decide +kernel) rfl
theorem wi_447_215 : ri (rt_P sc fm) 447 215 (.laload) (216) := ri_of (by decide +kernel) rfl
theorem wi_447_216 : ri (rt_P sc fm) 447 216 (.invokevirtual 765) (219) := ri_of (by decide +kernel) rfl
theorem wi_447_219 : ri (rt_P sc fm) 447 219 (.aload_n 0) (220) := ri_of (by decide +kernel) rfl
theorem wi_447_220 : ri (rt_P sc fm) 447 220 (.ldc_w 768) (223) := ri_of (by decide +kernel) rfl
theorem wi_447_223 : ri (rt_P sc fm) 447 223 (.invokevirtual 402) (226) := ri_of (by decide +kernel) rfl
theorem wi_447_226 : ri (rt_P sc fm) 447 226 (.aload_n 0) (227) := ri_of (by decide +kernel) rfl
theorem wi_447_227 : ri (rt_P sc fm) 447 227 (.aload_n 0) (228) := ri_of (by decide +kernel) rfl
theorem wi_447_228 : ri (rt_P sc fm) 447 228 (.getfield 185) (231) := ri_of (by decide +kernel) rfl
theorem wi_447_231 : ri (rt_P sc fm) 447 231 (.iload_n 2) (232) := ri_of (by decide +kernel) rfl
theorem wi_447_232 : ri (rt_P sc fm) 447 232 (.iaload) (233) := ri_of (by decide +kernel) rfl
theorem wi_447_233 : ri (rt_P sc fm) 447 233 (.bipush 20) (235) := ri_of (by decide +kernel) rfl
theorem wi_447_235 : ri (rt_P sc fm) 447 235 (.if_icmp .ne 27) (238) := ri_of (by decide +kernel) rfl
theorem wi_447_238 : ri (rt_P sc fm) 447 238 (.aload_n 0) (239) := ri_of (by decide +kernel) rfl
theorem wi_447_239 : ri (rt_P sc fm) 447 239 (.getfield 170) (242) := ri_of (by decide +kernel) rfl
theorem wi_447_242 : ri (rt_P sc fm) 447 242 (.bipush 8) (244) := ri_of (by decide +kernel) rfl
theorem wi_447_244 : ri (rt_P sc fm) 447 244 (.aload_n 0) (245) := ri_of (by decide +kernel) rfl
theorem wi_447_245 : ri (rt_P sc fm) 447 245 (.getfield 194) (248) := ri_of (by decide +kernel) rfl
theorem wi_447_248 : ri (rt_P sc fm) 447 248 (.iload_n 2) (249) := ri_of (by decide +kernel) rfl
theorem wi_447_249 : ri (rt_P sc fm) 447 249 (.iaload) (250) := ri_of (by decide +kernel) rfl
theorem wi_447_250 : ri (rt_P sc fm) 447 250 (.imul) (251) := ri_of (by decide +kernel) rfl
theorem wi_447_251 : ri (rt_P sc fm) 447 251 (.aload_n 0) (252) := ri_of (by decide +kernel) rfl
theorem wi_447_252 : ri (rt_P sc fm) 447 252 (.getfield 197) (255) := ri_of (by decide +kernel) rfl
theorem wi_447_255 : ri (rt_P sc fm) 447 255 (.iload_n 2) (256) := ri_of (by decide +kernel) rfl
theorem wi_447_256 : ri (rt_P sc fm) 447 256 (.iaload) (257) := ri_of (by decide +kernel) rfl
theorem wi_447_257 : ri (rt_P sc fm) 447 257 (.iadd) (258) := ri_of (by decide +kernel) rfl
theorem wi_447_258 : ri (rt_P sc fm) 447 258 (.laload) (259) := ri_of (by decide +kernel) rfl
theorem wi_447_259 : ri (rt_P sc fm) 447 259 (.goto 24) (262) := ri_of (by decide +kernel) rfl
theorem wi_447_262 : ri (rt_P sc fm) 447 262 (.aload_n 0) (263) := ri_of (by decide +kernel) rfl
theorem wi_447_263 : ri (rt_P sc fm) 447 263 (.getfield 164) (266) := ri_of (by decide +kernel) rfl
theorem wi_447_266 : ri (rt_P sc fm) 447 266 (.bipush 8) (268) := ri_of (by decide +kernel) rfl
theorem wi_447_268 : ri (rt_P sc fm) 447 268 (.aload_n 0) (269) := ri_of (by decide +kernel) rfl
theorem wi_447_269 : ri (rt_P sc fm) 447 269 (.getfield 194) (272) := ri_of (by decide +kernel) rfl
theorem wi_447_272 : ri (rt_P sc fm) 447 272 (.iload_n 2) (273) := ri_of (by decide +kernel) rfl
theorem wi_447_273 : ri (rt_P sc fm) 447 273 (.iaload) (274) := ri_of (by decide +kernel) rfl
theorem wi_447_274 : ri (rt_P sc fm) 447 274 (.imul) (275) := ri_of (by decide +kernel) rfl
theorem wi_447_275 : ri (rt_P sc fm) 447 275 (.aload_n 0) (276) := ri_of (by decide +kernel) rfl
theorem wi_447_276 : ri (rt_P sc fm) 447 276 (.getfield 197) (279) := ri_of (by decide +kernel) rfl
theorem wi_447_279 : ri (rt_P sc fm) 447 279 (.iload_n 2) (280) := ri_of (by decide +kernel) rfl
theorem wi_447_280 : ri (rt_P sc fm) 447 280 (.iaload) (281) := ri_of (by decide +kernel) rfl
theorem wi_447_281 : ri (rt_P sc fm) 447 281 (.iadd) (282) := ri_of (by decide +kernel) rfl
theorem wi_447_282 : ri (rt_P sc fm) 447 282 (.laload) (283) := ri_of (by decide +kernel) rfl
theorem wi_447_283 : ri (rt_P sc fm) 447 283 (.invokevirtual 765) (286) := ri_of (by decide +kernel) rfl
theorem wi_447_286 : ri (rt_P sc fm) 447 286 (.goto 22) (289) := ri_of (by decide +kernel) rfl
theorem wi_447_289 : ri (rt_P sc fm) 447 289 (.aload_n 0) (290) := ri_of (by decide +kernel) rfl
theorem wi_447_290 : ri (rt_P sc fm) 447 290 (.aload_n 0) (291) := ri_of (by decide +kernel) rfl
theorem wi_447_291 : ri (rt_P sc fm) 447 291 (.getfield 194) (294) := ri_of (by decide +kernel) rfl
theorem wi_447_294 : ri (rt_P sc fm) 447 294 (.iload_n 2) (295) := ri_of (by decide +kernel) rfl
theorem wi_447_295 : ri (rt_P sc fm) 447 295 (.iaload) (296) := ri_of (by decide +kernel) rfl
theorem wi_447_296 : ri (rt_P sc fm) 447 296 (.aload_n 0) (297) := ri_of (by decide +kernel) rfl
theorem wi_447_297 : ri (rt_P sc fm) 447 297 (.getfield 197) (300) := ri_of (by decide +kernel) rfl
theorem wi_447_300 : ri (rt_P sc fm) 447 300 (.iload_n 2) (301) := ri_of (by decide +kernel) rfl
theorem wi_447_301 : ri (rt_P sc fm) 447 301 (.iaload) (302) := ri_of (by decide +kernel) rfl
theorem wi_447_302 : ri (rt_P sc fm) 447 302 (.invokevirtual 813) (305) := ri_of (by decide +kernel) rfl
theorem wi_447_305 : ri (rt_P sc fm) 447 305 (.goto 3) (308) := ri_of (by decide +kernel) rfl
theorem wi_447_308 : ri (rt_P sc fm) 447 308 (.aload_n 0) (309) := ri_of (by decide +kernel) rfl
theorem wi_447_309 : ri (rt_P sc fm) 447 309 (.getfield 200) (312) := ri_of (by decide +kernel) rfl
theorem wi_447_312 : ri (rt_P sc fm) 447 312 (.iload_n 2) (313) := ri_of (by decide +kernel) rfl
theorem wi_447_313 : ri (rt_P sc fm) 447 313 (.iaload) (314) := ri_of (by decide +kernel) rfl
theorem wi_447_314 : ri (rt_P sc fm) 447 314 (.ifCond .ge 4) (317) := ri_of (by decide +kernel) rfl
theorem wi_447_317 : ri (rt_P sc fm) 447 317 (.return_) (318) := ri_of (by decide +kernel) rfl
theorem wi_447_318 : ri (rt_P sc fm) 447 318 (.iload_n 3) (319) := ri_of (by decide +kernel) rfl
theorem wi_447_319 : ri (rt_P sc fm) 447 319 (.ifCond .eq 24) (322) := ri_of (by decide +kernel) rfl
theorem wi_447_322 : ri (rt_P sc fm) 447 322 (.aload_n 0) (323) := ri_of (by decide +kernel) rfl
theorem wi_447_323 : ri (rt_P sc fm) 447 323 (.aload_n 0) (324) := ri_of (by decide +kernel) rfl
theorem wi_447_324 : ri (rt_P sc fm) 447 324 (.iload_n 1) (325) := ri_of (by decide +kernel) rfl
theorem wi_447_325 : ri (rt_P sc fm) 447 325 (.aload_n 0) (326) := ri_of (by decide +kernel) rfl
theorem wi_447_326 : ri (rt_P sc fm) 447 326 (.getfield 200) (329) := ri_of (by decide +kernel) rfl
theorem wi_447_329 : ri (rt_P sc fm) 447 329 (.iload_n 2) (330) := ri_of (by decide +kernel) rfl
theorem wi_447_330 : ri (rt_P sc fm) 447 330 (.iaload) (331) := ri_of (by decide +kernel) rfl
theorem wi_447_331 : ri (rt_P sc fm) 447 331 (.iload 4) (333) := ri_of (by decide +kernel) rfl
theorem wi_447_333 : ri (rt_P sc fm) 447 333 (.invokevirtual 816) (336) := ri_of (by decide +kernel) rfl
theorem wi_447_336 : ri (rt_P sc fm) 447 336 (.i2l) (337) := ri_of (by decide +kernel) rfl
theorem wi_447_337 : ri (rt_P sc fm) 447 337 (.invokevirtual 406) (340) := ri_of (by decide +kernel) rfl
theorem wi_447_340 : ri (rt_P sc fm) 447 340 (.goto 23) (343) := ri_of (by decide +kernel) rfl
theorem wi_447_343 : ri (rt_P sc fm) 447 343 (.aload_n 0) (344) := ri_of (by decide +kernel) rfl
theorem wi_447_344 : ri (rt_P sc fm) 447 344 (.aload_n 0) (345) := ri_of (by decide +kernel) rfl
theorem wi_447_345 : ri (rt_P sc fm) 447 345 (.getfield 188) (348) := ri_of (by decide +kernel) rfl
theorem wi_447_348 : ri (rt_P sc fm) 447 348 (.bipush 40) (350) := ri_of (by decide +kernel) rfl
theorem wi_447_350 : ri (rt_P sc fm) 447 350 (.iload_n 1) (351) := ri_of (by decide +kernel) rfl
theorem wi_447_351 : ri (rt_P sc fm) 447 351 (.imul) (352) := ri_of (by decide +kernel) rfl
theorem wi_447_352 : ri (rt_P sc fm) 447 352 (.aload_n 0) (353) := ri_of (by decide +kernel) rfl
theorem wi_447_353 : ri (rt_P sc fm) 447 353 (.getfield 200) (356) := ri_of (by decide +kernel) rfl
theorem wi_447_356 : ri (rt_P sc fm) 447 356 (.iload_n 2) (357) := ri_of (by decide +kernel) rfl
theorem wi_447_357 : ri (rt_P sc fm) 447 357 (.iaload) (358) := ri_of (by decide +kernel) rfl
theorem wi_447_358 : ri (rt_P sc fm) 447 358 (.iadd) (359) := ri_of (by decide +kernel) rfl
theorem wi_447_359 : ri (rt_P sc fm) 447 359 (.laload) (360) := ri_of (by decide +kernel) rfl
theorem wi_447_360 : ri (rt_P sc fm) 447 360 (.invokevirtual 765) (363) := ri_of (by decide +kernel) rfl
theorem wi_447_363 : ri (rt_P sc fm) 447 363 (.return_) (364) := ri_of (by decide +kernel) rfl
theorem wi_447_5 : ri (rt_P sc fm) 447 5 (.aload_n 0) (6) := ri_of (by decide +kernel) rfl
theorem wi_447_6 : ri (rt_P sc fm) 447 6 (.getfield 185) (9) := ri_of (by decide +kernel) rfl
theorem wi_447_9 : ri (rt_P sc fm) 447 9 (.iload_n 2) (10) := ri_of (by decide +kernel) rfl
theorem wk_447_763 : rx_kt (rt_P sc fm) 447 763 = some (.ref (rx_K 49)) := (by decide +kernel : rt_kt 447 763 = some (.ref (rx_K 49)))
theorem wk_447_768 : rx_kt (rt_P sc fm) 447 768 = some (.ref (rx_K 50)) := (by decide +kernel : rt_kt 447 768 = some (.ref (rx_K 50)))
theorem wm_448 : rx_ml (rt_P sc fm) 448 = 3 := (by decide +kernel : rt_ml 448 = 3)
theorem wm_465 : rx_ml (rt_P sc fm) 465 = 6 := (by decide +kernel : rt_ml 465 = 6)
theorem wr_447 : rx_rt (rt_P sc fm) 447 = none := (by decide +kernel : rt_rt 447 = none)
/-- MarkHouseModel.sayAct(IIZZ)V -/
def d_447 (n : Nat) (a1 : Int32) (a2 : Int32) (a3 : Int32) (a4 : Int32) (c : cS) : Option (cS) :=
  if ib a2 3840 then
  if ib (c.1 211 (ix a2)) 31 then
  Option.bind (d_362 n (2 + (ix (c.1 211 (ix a2)))) c) (fun r3 =>
  if ib a2 3840 then
  jn (fun p5 : cS =>
    if ib a2 3840 then
    if 0 ≤ (p5.1 216 (ix a2)) then
      jn (fun p7 : cS =>
        some p7)
      (fun j363 =>
      if a3 = 0 then
        if ib a2 3840 then
        if ib ((40 * a1) + (p5.1 216 (ix a2))) 3840 then
        Option.bind (d_363 n (p5.2 212 (ix ((40 * a1) + (p5.1 216 (ix a2))))) p5) (fun r10 =>
        j363 r10)
        else none
        else none
      else
        if ib a2 3840 then
        Option.bind (d_465 n a1 (p5.1 216 (ix a2)) a4 p5) (fun v12 =>
        Option.bind (d_364 n ((v12 : Int32).toInt64) p5) (fun r13 =>
        j363 r13))
        else none)
    else
      some p5
    else none)
  (fun j308 =>
  jn (fun p14 : Unit =>
    if ib a2 3840 then
    jn (fun p16 : cS =>
      Option.bind (whl (R := (cS)) (fun s18 : Int32 × cS =>
        if ib a2 3840 then
        if (s18.2.1 219 (ix a2)) ≤ s18.1 then
          some (.inr s18.2)
        else
          Option.bind (d_362 n 49 s18.2) (fun r20 =>
          if ib ((4 * a2) + s18.1) 15360 then
          if ib ((4 * a2) + s18.1) 15360 then
          Option.bind (d_448 n (r20.1 220 (ix ((4 * a2) + s18.1))) (r20.1 221 (ix ((4 * a2) + s18.1))) r20) (fun r23 =>
          lt (s18.1 + 1 : Int32) (fun v25 =>
          some (.inl (v25, r23))))
          else none
          else none)
        else none) n (0, p16))
      (fun x27 : cS =>
        j308 x27))
    (fun j125 =>
    if (r3.1 211 (ix a2)) = 14 then
      if ib a2 3840 then
      Option.bind (d_365 n (r3.1 214 (ix a2)) r3) (fun r29 =>
      j125 r29)
      else none
    else
      j125 r3)
    else none)
  (fun j104 =>
  jn (fun p30 : Unit =>
    if ib a2 3840 then
    if ib ((8 * a1) + (r3.1 214 (ix a2))) 768 then
    Option.bind (d_363 n (r3.2 209 (ix ((8 * a1) + (r3.1 214 (ix a2))))) r3) (fun r33 =>
    j308 r33)
    else none
    else none)
  (fun j181 =>
  jn (fun p34 : Unit =>
    if ib a2 3840 then
    if ib (r3.1 229 (ix a2)) 12 then
    Option.bind (d_363 n (r3.2 200 (ix (r3.1 229 (ix a2)))) r3) (fun r37 =>
    Option.bind (d_362 n 50 r37) (fun r38 =>
    if ib a2 3840 then
    jn (fun p40 : Int64 =>
      Option.bind (d_363 n p40 r38) (fun r41 =>
      j308 r41))
    (fun j283 =>
    if (r38.1 211 (ix a2)) = 20 then
      if ib a2 3840 then
      if ib a2 3840 then
      if ib ((8 * (r38.1 214 (ix a2))) + (r38.1 215 (ix a2))) 96 then
      j283 (r38.2 206 (ix ((8 * (r38.1 214 (ix a2))) + (r38.1 215 (ix a2)))))
      else none
      else none
      else none
    else
      if ib a2 3840 then
      if ib a2 3840 then
      if ib ((8 * (r38.1 214 (ix a2))) + (r38.1 215 (ix a2))) 96 then
      j283 (r38.2 204 (ix ((8 * (r38.1 214 (ix a2))) + (r38.1 215 (ix a2)))))
      else none
      else none
      else none)
    else none))
    else none
    else none)
  (fun j204 =>
  jn (fun p48 : Unit =>
    if ib a2 3840 then
    if ib a2 3840 then
    Option.bind (d_448 n (r3.1 214 (ix a2)) (r3.1 215 (ix a2)) r3) (fun r51 =>
    j308 r51)
    else none
    else none)
  (fun j289 =>
  if (r3.1 211 (ix a2)) = 14 then
    j104 ()
  else
  if (r3.1 211 (ix a2)) = 15 then
    j104 ()
  else
  if (r3.1 211 (ix a2)) = 16 then
    j181 ()
  else
  if (r3.1 211 (ix a2)) = 17 then
    j181 ()
  else
  if (r3.1 211 (ix a2)) = 18 then
    j204 ()
  else
  if (r3.1 211 (ix a2)) = 19 then
    j204 ()
  else
  if (r3.1 211 (ix a2)) = 20 then
    j204 ()
  else
  if (r3.1 211 (ix a2)) = 21 then
    j308 r3
  else
  if (r3.1 211 (ix a2)) = 22 then
    j308 r3
  else
  if (r3.1 211 (ix a2)) = 23 then
    j308 r3
  else
  if (r3.1 211 (ix a2)) = 24 then
    j308 r3
  else
  if (r3.1 211 (ix a2)) = 25 then
    j308 r3
  else
  if (r3.1 211 (ix a2)) = 26 then
    j308 r3
  else
  if (r3.1 211 (ix a2)) = 27 then
    j308 r3
  else
  if (r3.1 211 (ix a2)) = 28 then
    j308 r3
  else
  if (r3.1 211 (ix a2)) = 29 then
    j289 ()
  else
  if (r3.1 211 (ix a2)) = 30 then
    j289 ()
  else
  j308 r3)))))
  else none)
  else none
  else none
theorem sp_447 {F Lo n : Nat} {a1 : Int32} {a2 : Int32} {a3 : Int32} {a4 : Int32} {c y : cS} {w : cW} {K : cS → Prop} {Q : ((Option Value) ⊕ String) → List va_E → Prop} (hw : rOK fm w) (hF : 6 ≤ F) (hLo : 129 ≤ Lo)  (h : wp (d_447 n a1 a2 a3 a4 c) K) (hQ : ∀ r, K r → Q (.inl none) (hq false r y w)) : rs (rt_P sc fm) 447 F Lo 0 [(0, .ref 174), (1, .int a1), (2, .int a2), (3, .int a3), (4, .int a4)] [] (hq false c y w) Q := by
  unfold d_447 at h
  obtain ⟨lv, elv⟩ : ∃ lv : rx_L, lv = [(0, .ref 174), (1, .int a1), (2, .int a2), (3, .int a3), (4, .int a4)] := ⟨_, rfl⟩
  rw [← elv]
  have l0 : rx_ld lv 0 = some (.ref 174) := by rw [elv]; rfl
  have l1 : rx_ld lv 1 = some (.int a1) := by rw [elv]; rfl
  have l2 : rx_ld lv 2 = some (.int a2) := by rw [elv]; rfl
  have l3 : rx_ld lv 3 = some (.int a3) := by rw [elv]; rfl
  have l4 : rx_ld lv 4 = some (.int a4) := by rw [elv]; rfl
  refine rs_aldn wi_447_0 l0 ?_
  refine rs_aldn wi_447_1 l0 ?_
  refine dq_gr wi_447_2 wf_447_80 tf_174_6 ?_
  refine rs_aldn wi_447_5 l0 ?_
  refine dq_gr wi_447_6 wf_447_185 tf_174_49 ?_
  refine rs_ildn wi_447_9 l2 ?_
  obtain ⟨g1, h⟩ := wp_gd h
  refine dq_iald wi_447_10 t_211 g1 ?_
  obtain ⟨g2, h⟩ := wp_gd h
  refine dq_aald wi_447_11 (by decide) t_177 g2 (hw.2.2.1 _ (ib_lt g2)) ?_
  refine rs_V wi_447_12 wc_447_402 rfl (dq_isa tf_174_0 wa_15_362) (Nat.le_trans (by decide) hF) (ml_le wm_362 (Nat.le_trans (by decide) hLo)) rfl (sp_362 hw (Nat.le_trans (by decide : 4 ≤ 6 - 1) (Nat.sub_le_sub_right hF 1)) (ml_sub wm_362 (Nat.le_trans (by decide : 85 ≤ 129 - 22) (Nat.sub_le_sub_right hLo 22))) (rw_some (ib_lt g2)) (wp_bind h) (fun r3 h => rs_back0 ?_))
  refine rs_aldn wi_447_15 l0 ?_
  refine dq_gr wi_447_16 wf_447_185 tf_174_49 ?_
  refine rs_ildn wi_447_19 l2 ?_
  obtain ⟨g4, h⟩ := wp_gd h
  refine dq_iald wi_447_20 t_211 g4 ?_
  refine wp_jn (B := fun p5 : cS => ∀ lv, rx_ld lv 0 = some (.ref 174) → rx_ld lv 1 = some (.int a1) → rx_ld lv 2 = some (.int a2) → rx_ld lv 3 = some (.int a3) → rx_ld lv 4 = some (.int a4) → rs (rt_P sc fm) 447 F Lo 308 lv [] (hq false p5 y w) Q) h (fun p5 h lv l0 l1 l2 l3 l4 => ?_) (fun j308 hj308 h => ?_)
  ·
    refine rs_aldn wi_447_308 l0 ?_
    refine dq_gr wi_447_309 wf_447_200 tf_174_54 ?_
    refine rs_ildn wi_447_312 l2 ?_
    obtain ⟨g6, h⟩ := wp_gd h
    refine dq_iald wi_447_313 t_216 g6 ?_
    refine rs_ifge (tg := 318) wi_447_314 ⟨by decide, by decide⟩ (fun q => ?_) (fun q => ?_)
    ·
      have h := wp_pos h q
      refine rs_ildn wi_447_318 l3 ?_
      refine wp_jn (B := fun p7 : cS => ∀ lv, rs (rt_P sc fm) 447 F Lo 363 lv [] (hq false p7 y w) Q) h (fun p7 h lv => ?_) (fun j363 hj363 h => ?_)
      ·
        exact rs_vret wi_447_363 wr_447 (hQ p7 h)
      refine rs_ifeq (tg := 343) wi_447_319 ⟨by decide, by decide⟩ (fun q => ?_) (fun q => ?_)
      ·
        have h := wp_pos h q
        refine rs_aldn wi_447_343 l0 ?_
        refine rs_aldn wi_447_344 l0 ?_
        refine dq_gr wi_447_345 wf_447_188 tf_174_50 ?_
        refine rs_pure wi_447_348 rfl ?_
        refine rs_topi (v := 40) (by decide) ?_
        refine rs_ildn wi_447_350 l1 ?_
        refine rs_pure wi_447_351 rfl ?_
        refine rs_aldn wi_447_352 l0 ?_
        refine dq_gr wi_447_353 wf_447_200 tf_174_54 ?_
        refine rs_ildn wi_447_356 l2 ?_
        obtain ⟨g8, h⟩ := wp_gd h
        refine dq_iald wi_447_357 t_216 g8 ?_
        refine rs_pure wi_447_358 rfl ?_
        obtain ⟨g9, h⟩ := wp_gd h
        refine dq_lald wi_447_359 t_212 g9 ?_
        refine rs_V wi_447_360 wc_447_765 rfl (dq_isa tf_174_0 wa_15_363) (Nat.le_trans (by decide) hF) (ml_le wm_363 (Nat.le_trans (by decide) hLo)) rfl (sp_363 hw (Nat.le_trans (by decide : 2 ≤ 6 - 1) (Nat.sub_le_sub_right hF 1)) (ml_sub wm_363 (Nat.le_trans (by decide : 44 ≤ 129 - 22) (Nat.sub_le_sub_right hLo 22))) (wp_bind h) (fun r10 h => rs_back0 ?_))
        exact hj363 _ h _
      ·
        have h := wp_neg h q
        refine rs_aldn wi_447_322 l0 ?_
        refine rs_aldn wi_447_323 l0 ?_
        refine rs_ildn wi_447_324 l1 ?_
        refine rs_aldn wi_447_325 l0 ?_
        refine dq_gr wi_447_326 wf_447_200 tf_174_54 ?_
        refine rs_ildn wi_447_329 l2 ?_
        obtain ⟨g11, h⟩ := wp_gd h
        refine dq_iald wi_447_330 t_216 g11 ?_
        refine rs_ild wi_447_331 l4 ?_
        refine rs_V wi_447_333 wc_447_816 rfl (dq_isa tf_174_0 wa_15_465) (Nat.le_trans (by decide) hF) (ml_le wm_465 (Nat.le_trans (by decide) hLo)) rfl (sp_465 hw (Nat.le_trans (by decide : 1 ≤ 6 - 1) (Nat.sub_le_sub_right hF 1)) (ml_sub wm_465 (Nat.le_trans (by decide : 23 ≤ 129 - 25) (Nat.sub_le_sub_right hLo 25))) (wp_bind h) (fun v12 h => rs_back1 ?_))
        refine rs_pure wi_447_336 rfl ?_
        refine rs_V wi_447_337 wc_447_406 rfl (dq_isa tf_174_0 wa_15_364) (Nat.le_trans (by decide) hF) (ml_le wm_364 (Nat.le_trans (by decide) hLo)) rfl (sp_364 hw (Nat.le_trans (by decide : 2 ≤ 6 - 1) (Nat.sub_le_sub_right hF 1)) (ml_sub wm_364 (Nat.le_trans (by decide : 45 ≤ 129 - 22) (Nat.sub_le_sub_right hLo 22))) (wp_bind h) (fun r13 h => rs_back0 ?_))
        refine rs_goto (tg := 363) wi_447_340 ⟨by decide, by decide⟩ ?_
        exact hj363 _ h _
    ·
      have h := wp_neg h q
      exact rs_vret wi_447_317 wr_447 (hQ p5 h)
  refine wp_jn (B := fun p14 : Unit => ∀ lv, rx_ld lv 0 = some (.ref 174) → rx_ld lv 1 = some (.int a1) → rx_ld lv 2 = some (.int a2) → rx_ld lv 3 = some (.int a3) → rx_ld lv 4 = some (.int a4) → rs (rt_P sc fm) 447 F Lo 104 lv [] (hq false r3 y w) Q) h (fun p14 h lv l0 l1 l2 l3 l4 => ?_) (fun j104 hj104 h => ?_)
  ·
    refine rs_aldn wi_447_104 l0 ?_
    refine dq_gr wi_447_105 wf_447_185 tf_174_49 ?_
    refine rs_ildn wi_447_108 l2 ?_
    obtain ⟨g15, h⟩ := wp_gd h
    refine dq_iald wi_447_109 t_211 g15 ?_
    refine rs_pure wi_447_110 rfl ?_
    refine rs_topi (v := 14) (by decide) ?_
    refine wp_jn (B := fun p16 : cS => ∀ lv, rx_ld lv 0 = some (.ref 174) → rx_ld lv 1 = some (.int a1) → rx_ld lv 2 = some (.int a2) → rx_ld lv 3 = some (.int a3) → rx_ld lv 4 = some (.int a4) → rs (rt_P sc fm) 447 F Lo 125 lv [] (hq false p16 y w) Q) h (fun p16 h lv l0 l1 l2 l3 l4 => ?_) (fun j125 hj125 h => ?_)
    ·
      refine rs_pure wi_447_125 rfl ?_
      refine rs_topi (v := 0) (by decide) ?_
      refine dl_ist wi_447_126 rfl (fun lv l5 t17 => ?_)
      have l0 := t17 _ _ (by decide) (Or.inl rfl) l0
      have l1 := t17 _ _ (by decide) (Or.inl rfl) l1
      have l2 := t17 _ _ (by decide) (Or.inl rfl) l2
      have l3 := t17 _ _ (by decide) (Or.inl rfl) l3
      have l4 := t17 _ _ (by decide) (Or.inl rfl) l4
      refine whl_ex (A := fun s18 : Int32 × cS => ∀ lv, rx_ld lv 0 = some (.ref 174) → rx_ld lv 1 = some (.int a1) → rx_ld lv 2 = some (.int a2) → rx_ld lv 3 = some (.int a3) → rx_ld lv 4 = some (.int a4) → rx_ld lv 5 = some (.int s18.1) → rs (rt_P sc fm) 447 F Lo 128 lv [] (hq false s18.2 y w) Q) (B := (fun x27 : cS => ∀ lv, rx_ld lv 0 = some (.ref 174) → rx_ld lv 1 = some (.int a1) → rx_ld lv 2 = some (.int a2) → rx_ld lv 3 = some (.int a3) → rx_ld lv 4 = some (.int a4) → rs (rt_P sc fm) 447 F Lo 178 lv [] (hq false x27 y w) Q)) ?_ ?_ _ _ (wp_bind h) _ l0 l1 l2 l3 l4 l5
      · intro s18 h lv l0 l1 l2 l3 l4 l5
        refine rs_ild wi_447_128 l5 ?_
        refine rs_aldn wi_447_130 l0 ?_
        refine dq_gr wi_447_131 wf_447_209 tf_174_57 ?_
        refine rs_ildn wi_447_134 l2 ?_
        obtain ⟨g19, h⟩ := wp_gd h
        refine dq_iald wi_447_135 t_219 g19 ?_
        refine rs_icge (tg := 178) wi_447_136 ⟨by decide, by decide⟩ (fun q => ?_) (fun q => ?_)
        ·
          have h := wp_pos h q
          exact h _ l0 l1 l2 l3 l4
        ·
          have h := wp_neg h q
          refine rs_aldn wi_447_139 l0 ?_
          refine rs_ldcwS wi_447_140 wk_447_763 ?_
          refine rs_V wi_447_143 wc_447_402 rfl (dq_isa tf_174_0 wa_15_362) (Nat.le_trans (by decide) hF) (ml_le wm_362 (Nat.le_trans (by decide) hLo)) rfl (sp_362 hw (Nat.le_trans (by decide : 4 ≤ 6 - 1) (Nat.sub_le_sub_right hF 1)) (ml_sub wm_362 (Nat.le_trans (by decide : 85 ≤ 129 - 22) (Nat.sub_le_sub_right hLo 22))) (by decide +kernel) (wp_bind h) (fun r20 h => rs_back0 ?_))
          refine rs_aldn wi_447_146 l0 ?_
          refine rs_aldn wi_447_147 l0 ?_
          refine dq_gr wi_447_148 wf_447_212 tf_174_58 ?_
          refine rs_pure wi_447_151 rfl ?_
          refine rs_topi (v := 4) (by decide) ?_
          refine rs_ildn wi_447_152 l2 ?_
          refine rs_pure wi_447_153 rfl ?_
          refine rs_ild wi_447_154 l5 ?_
          refine rs_pure wi_447_156 rfl ?_
          obtain ⟨g21, h⟩ := wp_gd h
          refine dq_iald wi_447_157 t_220 g21 ?_
          refine rs_aldn wi_447_158 l0 ?_
          refine dq_gr wi_447_159 wf_447_215 tf_174_59 ?_
          refine rs_pure wi_447_162 rfl ?_
          refine rs_topi (v := 4) (by decide) ?_
          refine rs_ildn wi_447_163 l2 ?_
          refine rs_pure wi_447_164 rfl ?_
          refine rs_ild wi_447_165 l5 ?_
          refine rs_pure wi_447_167 rfl ?_
          obtain ⟨g22, h⟩ := wp_gd h
          refine dq_iald wi_447_168 t_221 g22 ?_
          refine rs_V wi_447_169 wc_447_813 rfl (dq_isa tf_174_0 wa_15_448) (Nat.le_trans (by decide) hF) (ml_le wm_448 (Nat.le_trans (by decide) hLo)) rfl (sp_448 hw (Nat.le_trans (by decide : 5 ≤ 6 - 1) (Nat.sub_le_sub_right hF 1)) (ml_sub wm_448 (Nat.le_trans (by decide : 107 ≤ 129 - 22) (Nat.sub_le_sub_right hLo 22))) (wp_bind h) (fun r23 h => rs_back0 ?_))
          obtain ⟨v25, e26, h⟩ := wp_lt h
          refine dl_inc wi_447_172 l5 rfl e26 (fun lv l5 t24 => ?_)
          have l0 := t24 _ _ (by decide) (Or.inl rfl) l0
          have l1 := t24 _ _ (by decide) (Or.inl rfl) l1
          have l2 := t24 _ _ (by decide) (Or.inl rfl) l2
          have l3 := t24 _ _ (by decide) (Or.inl rfl) l3
          have l4 := t24 _ _ (by decide) (Or.inl rfl) l4
          refine rs_goto (tg := 128) wi_447_175 ⟨by decide, by decide⟩ ?_
          exact h _ l0 l1 l2 l3 l4 l5
      ·
        intro x27 h lv l0 l1 l2 l3 l4
        refine rs_goto (tg := 308) wi_447_178 ⟨by decide, by decide⟩ ?_
        exact hj308 _ h _ l0 l1 l2 l3 l4
    refine rs_icne (tg := 125) wi_447_112 ⟨by decide, by decide⟩ (fun q => ?_) (fun q => ?_)
    ·
      have h := wp_neg h q
      exact hj125 _ h _ l0 l1 l2 l3 l4
    ·
      have h := wp_pos h q
      refine rs_aldn wi_447_115 l0 ?_
      refine rs_aldn wi_447_116 l0 ?_
      refine dq_gr wi_447_117 wf_447_194 tf_174_52 ?_
      refine rs_ildn wi_447_120 l2 ?_
      obtain ⟨g28, h⟩ := wp_gd h
      refine dq_iald wi_447_121 t_214 g28 ?_
      refine rs_V wi_447_122 wc_447_783 rfl (dq_isa tf_174_0 wa_15_365) (Nat.le_trans (by decide) hF) (ml_le wm_365 (Nat.le_trans (by decide) hLo)) rfl (sp_365 hw (Nat.le_trans (by decide : 5 ≤ 6 - 1) (Nat.sub_le_sub_right hF 1)) (ml_sub wm_365 (Nat.le_trans (by decide : 107 ≤ 129 - 21) (Nat.sub_le_sub_right hLo 21))) (wp_bind h) (fun r29 h => rs_back0 ?_))
      exact hj125 _ h _ l0 l1 l2 l3 l4
  refine wp_jn (B := fun p30 : Unit => ∀ lv, rx_ld lv 0 = some (.ref 174) → rx_ld lv 1 = some (.int a1) → rx_ld lv 2 = some (.int a2) → rx_ld lv 3 = some (.int a3) → rx_ld lv 4 = some (.int a4) → rs (rt_P sc fm) 447 F Lo 181 lv [] (hq false r3 y w) Q) h (fun p30 h lv l0 l1 l2 l3 l4 => ?_) (fun j181 hj181 h => ?_)
  ·
    refine rs_aldn wi_447_181 l0 ?_
    refine rs_aldn wi_447_182 l0 ?_
    refine dq_gr wi_447_183 wf_447_179 tf_174_47 ?_
    refine rs_pure wi_447_186 rfl ?_
    refine rs_topi (v := 8) (by decide) ?_
    refine rs_ildn wi_447_188 l1 ?_
    refine rs_pure wi_447_189 rfl ?_
    refine rs_aldn wi_447_190 l0 ?_
    refine dq_gr wi_447_191 wf_447_194 tf_174_52 ?_
    refine rs_ildn wi_447_194 l2 ?_
    obtain ⟨g31, h⟩ := wp_gd h
    refine dq_iald wi_447_195 t_214 g31 ?_
    refine rs_pure wi_447_196 rfl ?_
    obtain ⟨g32, h⟩ := wp_gd h
    refine dq_lald wi_447_197 t_209 g32 ?_
    refine rs_V wi_447_198 wc_447_765 rfl (dq_isa tf_174_0 wa_15_363) (Nat.le_trans (by decide) hF) (ml_le wm_363 (Nat.le_trans (by decide) hLo)) rfl (sp_363 hw (Nat.le_trans (by decide : 2 ≤ 6 - 1) (Nat.sub_le_sub_right hF 1)) (ml_sub wm_363 (Nat.le_trans (by decide : 44 ≤ 129 - 22) (Nat.sub_le_sub_right hLo 22))) (wp_bind h) (fun r33 h => rs_back0 ?_))
    refine rs_goto (tg := 308) wi_447_201 ⟨by decide, by decide⟩ ?_
    exact hj308 _ h _ l0 l1 l2 l3 l4
  refine wp_jn (B := fun p34 : Unit => ∀ lv, rx_ld lv 0 = some (.ref 174) → rx_ld lv 1 = some (.int a1) → rx_ld lv 2 = some (.int a2) → rx_ld lv 3 = some (.int a3) → rx_ld lv 4 = some (.int a4) → rs (rt_P sc fm) 447 F Lo 204 lv [] (hq false r3 y w) Q) h (fun p34 h lv l0 l1 l2 l3 l4 => ?_) (fun j204 hj204 h => ?_)
  ·
    refine rs_aldn wi_447_204 l0 ?_
    refine rs_aldn wi_447_205 l0 ?_
    refine dq_gr wi_447_206 wf_447_152 tf_174_38 ?_
    refine rs_aldn wi_447_209 l0 ?_
    refine dq_gr wi_447_210 wf_447_240 tf_174_69 ?_
    refine rs_ildn wi_447_213 l2 ?_
    obtain ⟨g35, h⟩ := wp_gd h
    refine dq_iald wi_447_214 t_229 g35 ?_
    obtain ⟨g36, h⟩ := wp_gd h
    refine dq_lald wi_447_215 t_200 g36 ?_
    refine rs_V wi_447_216 wc_447_765 rfl (dq_isa tf_174_0 wa_15_363) (Nat.le_trans (by decide) hF) (ml_le wm_363 (Nat.le_trans (by decide) hLo)) rfl (sp_363 hw (Nat.le_trans (by decide : 2 ≤ 6 - 1) (Nat.sub_le_sub_right hF 1)) (ml_sub wm_363 (Nat.le_trans (by decide : 44 ≤ 129 - 22) (Nat.sub_le_sub_right hLo 22))) (wp_bind h) (fun r37 h => rs_back0 ?_))
    refine rs_aldn wi_447_219 l0 ?_
    refine rs_ldcwS wi_447_220 wk_447_768 ?_
    refine rs_V wi_447_223 wc_447_402 rfl (dq_isa tf_174_0 wa_15_362) (Nat.le_trans (by decide) hF) (ml_le wm_362 (Nat.le_trans (by decide) hLo)) rfl (sp_362 hw (Nat.le_trans (by decide : 4 ≤ 6 - 1) (Nat.sub_le_sub_right hF 1)) (ml_sub wm_362 (Nat.le_trans (by decide : 85 ≤ 129 - 22) (Nat.sub_le_sub_right hLo 22))) (by decide +kernel) (wp_bind h) (fun r38 h => rs_back0 ?_))
    refine rs_aldn wi_447_226 l0 ?_
    refine rs_aldn wi_447_227 l0 ?_
    refine dq_gr wi_447_228 wf_447_185 tf_174_49 ?_
    refine rs_ildn wi_447_231 l2 ?_
    obtain ⟨g39, h⟩ := wp_gd h
    refine dq_iald wi_447_232 t_211 g39 ?_
    refine rs_pure wi_447_233 rfl ?_
    refine rs_topi (v := 20) (by decide) ?_
    refine wp_jn (B := fun p40 : Int64 => ∀ lv, rx_ld lv 0 = some (.ref 174) → rx_ld lv 1 = some (.int a1) → rx_ld lv 2 = some (.int a2) → rx_ld lv 3 = some (.int a3) → rx_ld lv 4 = some (.int a4) → rs (rt_P sc fm) 447 F Lo 283 lv [.long p40, .ref 174] (hq false r38 y w) Q) h (fun p40 h lv l0 l1 l2 l3 l4 => ?_) (fun j283 hj283 h => ?_)
    ·
      refine rs_V wi_447_283 wc_447_765 rfl (dq_isa tf_174_0 wa_15_363) (Nat.le_trans (by decide) hF) (ml_le wm_363 (Nat.le_trans (by decide) hLo)) rfl (sp_363 hw (Nat.le_trans (by decide : 2 ≤ 6 - 1) (Nat.sub_le_sub_right hF 1)) (ml_sub wm_363 (Nat.le_trans (by decide : 44 ≤ 129 - 22) (Nat.sub_le_sub_right hLo 22))) (wp_bind h) (fun r41 h => rs_back0 ?_))
      refine rs_goto (tg := 308) wi_447_286 ⟨by decide, by decide⟩ ?_
      exact hj308 _ h _ l0 l1 l2 l3 l4
    refine rs_icne (tg := 262) wi_447_235 ⟨by decide, by decide⟩ (fun q => ?_) (fun q => ?_)
    ·
      have h := wp_neg h q
      refine rs_aldn wi_447_262 l0 ?_
      refine dq_gr wi_447_263 wf_447_164 tf_174_42 ?_
      refine rs_pure wi_447_266 rfl ?_
      refine rs_topi (v := 8) (by decide) ?_
      refine rs_aldn wi_447_268 l0 ?_
      refine dq_gr wi_447_269 wf_447_194 tf_174_52 ?_
      refine rs_ildn wi_447_272 l2 ?_
      obtain ⟨g42, h⟩ := wp_gd h
      refine dq_iald wi_447_273 t_214 g42 ?_
      refine rs_pure wi_447_274 rfl ?_
      refine rs_aldn wi_447_275 l0 ?_
      refine dq_gr wi_447_276 wf_447_197 tf_174_53 ?_
      refine rs_ildn wi_447_279 l2 ?_
      obtain ⟨g43, h⟩ := wp_gd h
      refine dq_iald wi_447_280 t_215 g43 ?_
      refine rs_pure wi_447_281 rfl ?_
      obtain ⟨g44, h⟩ := wp_gd h
      refine dq_lald wi_447_282 t_204 g44 ?_
      exact hj283 _ h _ l0 l1 l2 l3 l4
    ·
      have h := wp_pos h q
      refine rs_aldn wi_447_238 l0 ?_
      refine dq_gr wi_447_239 wf_447_170 tf_174_44 ?_
      refine rs_pure wi_447_242 rfl ?_
      refine rs_topi (v := 8) (by decide) ?_
      refine rs_aldn wi_447_244 l0 ?_
      refine dq_gr wi_447_245 wf_447_194 tf_174_52 ?_
      refine rs_ildn wi_447_248 l2 ?_
      obtain ⟨g45, h⟩ := wp_gd h
      refine dq_iald wi_447_249 t_214 g45 ?_
      refine rs_pure wi_447_250 rfl ?_
      refine rs_aldn wi_447_251 l0 ?_
      refine dq_gr wi_447_252 wf_447_197 tf_174_53 ?_
      refine rs_ildn wi_447_255 l2 ?_
      obtain ⟨g46, h⟩ := wp_gd h
      refine dq_iald wi_447_256 t_215 g46 ?_
      refine rs_pure wi_447_257 rfl ?_
      obtain ⟨g47, h⟩ := wp_gd h
      refine dq_lald wi_447_258 t_206 g47 ?_
      refine rs_goto (tg := 283) wi_447_259 ⟨by decide, by decide⟩ ?_
      exact hj283 _ h _ l0 l1 l2 l3 l4
  refine wp_jn (B := fun p48 : Unit => ∀ lv, rx_ld lv 0 = some (.ref 174) → rx_ld lv 1 = some (.int a1) → rx_ld lv 2 = some (.int a2) → rx_ld lv 3 = some (.int a3) → rx_ld lv 4 = some (.int a4) → rs (rt_P sc fm) 447 F Lo 289 lv [] (hq false r3 y w) Q) h (fun p48 h lv l0 l1 l2 l3 l4 => ?_) (fun j289 hj289 h => ?_)
  ·
    refine rs_aldn wi_447_289 l0 ?_
    refine rs_aldn wi_447_290 l0 ?_
    refine dq_gr wi_447_291 wf_447_194 tf_174_52 ?_
    refine rs_ildn wi_447_294 l2 ?_
    obtain ⟨g49, h⟩ := wp_gd h
    refine dq_iald wi_447_295 t_214 g49 ?_
    refine rs_aldn wi_447_296 l0 ?_
    refine dq_gr wi_447_297 wf_447_197 tf_174_53 ?_
    refine rs_ildn wi_447_300 l2 ?_
    obtain ⟨g50, h⟩ := wp_gd h
    refine dq_iald wi_447_301 t_215 g50 ?_
    refine rs_V wi_447_302 wc_447_813 rfl (dq_isa tf_174_0 wa_15_448) (Nat.le_trans (by decide) hF) (ml_le wm_448 (Nat.le_trans (by decide) hLo)) rfl (sp_448 hw (Nat.le_trans (by decide : 5 ≤ 6 - 1) (Nat.sub_le_sub_right hF 1)) (ml_sub wm_448 (Nat.le_trans (by decide : 107 ≤ 129 - 22) (Nat.sub_le_sub_right hLo 22))) (wp_bind h) (fun r51 h => rs_back0 ?_))
    refine rs_goto (tg := 308) wi_447_305 ⟨by decide, by decide⟩ ?_
    exact hj308 _ h _ l0 l1 l2 l3 l4
  by_cases q52 : (r3.1 211 (ix a2)) = 14
  ·
    have h := wp_pos h q52
    refine rs_tsk (tg := 104) (off := 83) (v := 14) wi_447_21 q52 (by decide) (by decide) ⟨by decide, by decide⟩ ?_
    exact hj104 _ h _ l0 l1 l2 l3 l4
  have h := wp_neg h q52
  by_cases q53 : (r3.1 211 (ix a2)) = 15
  ·
    have h := wp_pos h q53
    refine rs_tsk (tg := 104) (off := 83) (v := 15) wi_447_21 q53 (by decide) (by decide) ⟨by decide, by decide⟩ ?_
    exact hj104 _ h _ l0 l1 l2 l3 l4
  have h := wp_neg h q53
  by_cases q54 : (r3.1 211 (ix a2)) = 16
  ·
    have h := wp_pos h q54
    refine rs_tsk (tg := 181) (off := 160) (v := 16) wi_447_21 q54 (by decide) (by decide) ⟨by decide, by decide⟩ ?_
    exact hj181 _ h _ l0 l1 l2 l3 l4
  have h := wp_neg h q54
  by_cases q55 : (r3.1 211 (ix a2)) = 17
  ·
    have h := wp_pos h q55
    refine rs_tsk (tg := 181) (off := 160) (v := 17) wi_447_21 q55 (by decide) (by decide) ⟨by decide, by decide⟩ ?_
    exact hj181 _ h _ l0 l1 l2 l3 l4
  have h := wp_neg h q55
  by_cases q56 : (r3.1 211 (ix a2)) = 18
  ·
    have h := wp_pos h q56
    refine rs_tsk (tg := 204) (off := 183) (v := 18) wi_447_21 q56 (by decide) (by decide) ⟨by decide, by decide⟩ ?_
    exact hj204 _ h _ l0 l1 l2 l3 l4
  have h := wp_neg h q56
  by_cases q57 : (r3.1 211 (ix a2)) = 19
  ·
    have h := wp_pos h q57
    refine rs_tsk (tg := 204) (off := 183) (v := 19) wi_447_21 q57 (by decide) (by decide) ⟨by decide, by decide⟩ ?_
    exact hj204 _ h _ l0 l1 l2 l3 l4
  have h := wp_neg h q57
  by_cases q58 : (r3.1 211 (ix a2)) = 20
  ·
    have h := wp_pos h q58
    refine rs_tsk (tg := 204) (off := 183) (v := 20) wi_447_21 q58 (by decide) (by decide) ⟨by decide, by decide⟩ ?_
    exact hj204 _ h _ l0 l1 l2 l3 l4
  have h := wp_neg h q58
  by_cases q59 : (r3.1 211 (ix a2)) = 21
  ·
    have h := wp_pos h q59
    refine rs_tsk (tg := 308) (off := 287) (v := 21) wi_447_21 q59 (by decide) (by decide) ⟨by decide, by decide⟩ ?_
    exact hj308 _ h _ l0 l1 l2 l3 l4
  have h := wp_neg h q59
  by_cases q60 : (r3.1 211 (ix a2)) = 22
  ·
    have h := wp_pos h q60
    refine rs_tsk (tg := 308) (off := 287) (v := 22) wi_447_21 q60 (by decide) (by decide) ⟨by decide, by decide⟩ ?_
    exact hj308 _ h _ l0 l1 l2 l3 l4
  have h := wp_neg h q60
  by_cases q61 : (r3.1 211 (ix a2)) = 23
  ·
    have h := wp_pos h q61
    refine rs_tsk (tg := 308) (off := 287) (v := 23) wi_447_21 q61 (by decide) (by decide) ⟨by decide, by decide⟩ ?_
    exact hj308 _ h _ l0 l1 l2 l3 l4
  have h := wp_neg h q61
  by_cases q62 : (r3.1 211 (ix a2)) = 24
  ·
    have h := wp_pos h q62
    refine rs_tsk (tg := 308) (off := 287) (v := 24) wi_447_21 q62 (by decide) (by decide) ⟨by decide, by decide⟩ ?_
    exact hj308 _ h _ l0 l1 l2 l3 l4
  have h := wp_neg h q62
  by_cases q63 : (r3.1 211 (ix a2)) = 25
  ·
    have h := wp_pos h q63
    refine rs_tsk (tg := 308) (off := 287) (v := 25) wi_447_21 q63 (by decide) (by decide) ⟨by decide, by decide⟩ ?_
    exact hj308 _ h _ l0 l1 l2 l3 l4
  have h := wp_neg h q63
  by_cases q64 : (r3.1 211 (ix a2)) = 26
  ·
    have h := wp_pos h q64
    refine rs_tsk (tg := 308) (off := 287) (v := 26) wi_447_21 q64 (by decide) (by decide) ⟨by decide, by decide⟩ ?_
    exact hj308 _ h _ l0 l1 l2 l3 l4
  have h := wp_neg h q64
  by_cases q65 : (r3.1 211 (ix a2)) = 27
  ·
    have h := wp_pos h q65
    refine rs_tsk (tg := 308) (off := 287) (v := 27) wi_447_21 q65 (by decide) (by decide) ⟨by decide, by decide⟩ ?_
    exact hj308 _ h _ l0 l1 l2 l3 l4
  have h := wp_neg h q65
  by_cases q66 : (r3.1 211 (ix a2)) = 28
  ·
    have h := wp_pos h q66
    refine rs_tsk (tg := 308) (off := 287) (v := 28) wi_447_21 q66 (by decide) (by decide) ⟨by decide, by decide⟩ ?_
    exact hj308 _ h _ l0 l1 l2 l3 l4
  have h := wp_neg h q66
  by_cases q67 : (r3.1 211 (ix a2)) = 29
  ·
    have h := wp_pos h q67
    refine rs_tsk (tg := 289) (off := 268) (v := 29) wi_447_21 q67 (by decide) (by decide) ⟨by decide, by decide⟩ ?_
    exact hj289 _ h _ l0 l1 l2 l3 l4
  have h := wp_neg h q67
  by_cases q68 : (r3.1 211 (ix a2)) = 30
  ·
    have h := wp_pos h q68
    refine rs_tsk (tg := 289) (off := 268) (v := 30) wi_447_21 q68 (by decide) (by decide) ⟨by decide, by decide⟩ ?_
    exact hj289 _ h _ l0 l1 l2 l3 l4
  have h := wp_neg h q68
  refine rs_tsd (tg := 308) wi_447_21 (rz_sw fun k k1 k2 => by
    have kk : k = 14 ∨ k = 15 ∨ k = 16 ∨ k = 17 ∨ k = 18 ∨ k = 19 ∨ k = 20 ∨ k = 21 ∨ k = 22 ∨ k = 23 ∨ k = 24 ∨ k = 25 ∨ k = 26 ∨ k = 27 ∨ k = 28 ∨ k = 29 ∨ k = 30 := by omega
    rcases kk with rfl | rfl | rfl | rfl | rfl | rfl | rfl | rfl | rfl | rfl | rfl | rfl | rfl | rfl | rfl | rfl | rfl
    · exact q52
    · exact q53
    · exact q54
    · exact q55
    · exact q56
    · exact q57
    · exact q58
    · exact q59
    · exact q60
    · exact q61
    · exact q62
    · exact q63
    · exact q64
    · exact q65
    · exact q66
    · exact q67
    · exact q68
    ) ⟨by decide, by decide⟩ ?_
  exact hj308 _ h _ l0 l1 l2 l3 l4
theorem wa_15_447 : rz_cn 15 (rx_yn (rt_P sc fm) 447).cls = true := (by decide +kernel : rz_cn 15 (rt_yn 447).cls = true)
theorem wc_446_402 : rx_ct (rt_P sc fm) 446 402 = some (0, 362, 1) := (by decide +kernel : rt_ct 446 402 = some (0, 362, 1))
theorem wc_446_661 : rx_ct (rt_P sc fm) 446 661 = some (1, 422, 1) := (by decide +kernel : rt_ct 446 661 = some (1, 422, 1))
theorem wc_446_765 : rx_ct (rt_P sc fm) 446 765 = some (0, 363, 1) := (by decide +kernel : rt_ct 446 765 = some (0, 363, 1))
theorem wc_446_783 : rx_ct (rt_P sc fm) 446 783 = some (0, 365, 1) := (by decide +kernel : rt_ct 446 783 = some (0, 365, 1))
theorem wc_446_803 : rx_ct (rt_P sc fm) 446 803 = some (0, 442, 1) := (by decide +kernel : rt_ct 446 803 = some (0, 442, 1))
theorem wc_446_808 : rx_ct (rt_P sc fm) 446 808 = some (0, 447, 4) := (by decide +kernel : rt_ct 446 808 = some (0, 447, 4))
theorem wf_446_152 : rx_ft (rt_P sc fm) 446 152 = some (15, 38) := (by decide +kernel : rt_ft 446 152 = some (15, 38))
theorem wf_446_155 : rx_ft (rt_P sc fm) 446 155 = some (15, 39) := (by decide +kernel : rt_ft 446 155 = some (15, 39))
theorem wf_446_158 : rx_ft (rt_P sc fm) 446 158 = some (15, 40) := (by decide +kernel : rt_ft 446 158 = some (15, 40))
theorem wf_446_161 : rx_ft (rt_P sc fm) 446 161 = some (15, 41) := (by decide +kernel : rt_ft 446 161 = some (15, 41))
theorem wf_446_164 : rx_ft (rt_P sc fm) 446 164 = some (15, 42) := (by decide +kernel : rt_ft 446 164 = some (15, 42))
theorem wf_446_167 : rx_ft (rt_P sc fm) 446 167 = some (15, 43) := (by decide +kernel : rt_ft 446 167 = some (15, 43))
theorem wf_446_170 : rx_ft (rt_P sc fm) 446 170 = some (15, 44) := (by decide +kernel : rt_ft 446 170 = some (15, 44))
theorem wf_446_173 : rx_ft (rt_P sc fm) 446 173 = some (15, 45) := (by decide +kernel : rt_ft 446 173 = some (15, 45))
theorem wf_446_179 : rx_ft (rt_P sc fm) 446 179 = some (15, 47) := (by decide +kernel : rt_ft 446 179 = some (15, 47))
theorem wf_446_182 : rx_ft (rt_P sc fm) 446 182 = some (15, 48) := (by decide +kernel : rt_ft 446 182 = some (15, 48))
theorem wf_446_188 : rx_ft (rt_P sc fm) 446 188 = some (15, 50) := (by decide +kernel : rt_ft 446 188 = some (15, 50))
theorem wi_446_0 : ri (rt_P sc fm) 446 0 (.aload_n 0) (1) := ri_of (by decide +kernel) rfl
theorem wi_446_1 : ri (rt_P sc fm) 446 1 (.ldc 22) (3) := ri_of (by decide +kernel) rfl
theorem wi_446_100 : ri (rt_P sc fm) 446 100 (.iconst 1) (101) := ri_of (by decide +kernel) rfl
theorem wi_446_101 : ri (rt_P sc fm) 446 101 (.iadd) (102) := ri_of (by decide +kernel) rfl
theorem wi_446_102 : ri (rt_P sc fm) 446 102 (.iload_n 2) (103) := ri_of (by decide +kernel) rfl
theorem wi_446_103 : ri (rt_P sc fm) 446 103 (.iadd) (104) := ri_of (by decide +kernel) rfl
theorem wi_446_104 : ri (rt_P sc fm) 446 104 (.invokevirtual 803) (107) := ri_of (by decide +kernel) rfl
theorem wi_446_107 : ri (rt_P sc fm) 446 107 (.aload_n 0) (108) := ri_of (by decide +kernel) rfl
theorem wi_446_108 : ri (rt_P sc fm) 446 108 (.getfield 167) (111) := ri_of (by decide +kernel) rfl
theorem wi_446_11 : ri (rt_P sc fm) 446 11 (.iload_n 1) (12) := ri_of (by decide +kernel) rfl
theorem wi_446_111 : ri (rt_P sc fm) 446 111 (.bipush 8) (113) := ri_of (by decide +kernel) rfl
theorem wi_446_113 : ri (rt_P sc fm) 446 113 (.iload_n 1) (114) := ri_of (by decide +kernel) rfl
theorem wi_446_114 : ri (rt_P sc fm) 446 114 (.imul) (115) := ri_of (by decide +kernel) rfl
theorem wi_446_115 : ri (rt_P sc fm) 446 115 (.iload_n 2) (116) := ri_of (by decide +kernel) rfl
theorem wi_446_116 : ri (rt_P sc fm) 446 116 (.iadd) (117) := ri_of (by decide +kernel) rfl
theorem wi_446_117 : ri (rt_P sc fm) 446 117 (.iaload) (118) := ri_of (by decide +kernel) rfl
theorem wi_446_118 : ri (rt_P sc fm) 446 118 (.ifCond .eq 25) (121) := ri_of (by decide +kernel) rfl
theorem wi_446_12 : ri (rt_P sc fm) 446 12 (.laload) (13) := ri_of (by decide +kernel) rfl
theorem wi_446_121 : ri (rt_P sc fm) 446 121 (.aload_n 0) (122) := ri_of (by decide +kernel) rfl
theorem wi_446_122 : ri (rt_P sc fm) 446 122 (.ldc_w 778) (125) := ri_of (by decide +kernel) rfl
theorem wi_446_125 : ri (rt_P sc fm) 446 125 (.invokevirtual 402) (128) := ri_of (by decide +kernel) rfl
theorem wi_446_128 : ri (rt_P sc fm) 446 128 (.aload_n 0) (129) := ri_of (by decide +kernel) rfl
theorem wi_446_129 : ri (rt_P sc fm) 446 129 (.aload_n 0) (130) := ri_of (by decide +kernel) rfl
theorem wi_446_13 : ri (rt_P sc fm) 446 13 (.invokevirtual 765) (16) := ri_of (by decide +kernel) rfl
theorem wi_446_130 : ri (rt_P sc fm) 446 130 (.getfield 167) (133) := ri_of (by decide +kernel) rfl
theorem wi_446_133 : ri (rt_P sc fm) 446 133 (.bipush 8) (135) := ri_of (by decide +kernel) rfl
theorem wi_446_135 : ri (rt_P sc fm) 446 135 (.iload_n 1) (136) := ri_of (by decide +kernel) rfl
theorem wi_446_136 : ri (rt_P sc fm) 446 136 (.imul) (137) := ri_of (by decide +kernel) rfl
theorem wi_446_137 : ri (rt_P sc fm) 446 137 (.iload_n 2) (138) := ri_of (by decide +kernel) rfl
theorem wi_446_138 : ri (rt_P sc fm) 446 138 (.iadd) (139) := ri_of (by decide +kernel) rfl
theorem wi_446_139 : ri (rt_P sc fm) 446 139 (.iaload) (140) := ri_of (by decide +kernel) rfl
theorem wi_446_140 : ri (rt_P sc fm) 446 140 (.invokevirtual 783) (143) := ri_of (by decide +kernel) rfl
theorem wi_446_143 : ri (rt_P sc fm) 446 143 (.aload_n 0) (144) := ri_of (by decide +kernel) rfl
theorem wi_446_144 : ri (rt_P sc fm) 446 144 (.ldc_w 801) (147) := ri_of (by decide +kernel) rfl
theorem wi_446_147 : ri (rt_P sc fm) 446 147 (.invokevirtual 402) (150) := ri_of (by decide +kernel) rfl
theorem wi_446_150 : ri (rt_P sc fm) 446 150 (.iinc 2 1) (153) := ri_of (by decide +kernel) rfl
theorem wi_446_153 : ri (rt_P sc fm) 446 153 (.goto (-89)) (156) := ri_of (by decide +kernel) rfl
theorem wi_446_156 : ri (rt_P sc fm) 446 156 (.bipush 8) (158) := ri_of (by decide +kernel) rfl
theorem wi_446_158 : ri (rt_P sc fm) 446 158 (.iload_n 1) (159) := ri_of (by decide +kernel) rfl
theorem wi_446_159 : ri (rt_P sc fm) 446 159 (.imul) (160) := ri_of (by decide +kernel) rfl
theorem wi_446_16 : ri (rt_P sc fm) 446 16 (.aload_n 0) (17) := ri_of (by decide +kernel) rfl
theorem wi_446_160 : ri (rt_P sc fm) 446 160 (.istore_n 2) (161) := ri_of (by decide +kernel) rfl
theorem wi_446_161 : ri (rt_P sc fm) 446 161 (.iload_n 2) (162) := ri_of (by decide +kernel) rfl
theorem wi_446_162 : ri (rt_P sc fm) 446 162 (.bipush 8) (164) := ri_of (by decide +kernel) rfl
theorem wi_446_164 : ri (rt_P sc fm) 446 164 (.iload_n 1) (165) := ri_of (by decide +kernel) rfl
theorem wi_446_165 : ri (rt_P sc fm) 446 165 (.imul) (166) := ri_of (by decide +kernel) rfl
theorem wi_446_166 : ri (rt_P sc fm) 446 166 (.aload_n 0) (167) := ri_of (by decide +kernel) rfl
theorem wi_446_167 : ri (rt_P sc fm) 446 167 (.getfield 161) (170) := ri_of (by decide +kernel) rfl
theorem wi_446_17 : ri (rt_P sc fm) 446 17 (.getfield 155) (20) := ri_of (by decide +kernel) rfl
theorem wi_446_170 : ri (rt_P sc fm) 446 170 (.iload_n 1) (171) := ri_of (by decide +kernel) rfl
theorem wi_446_171 : ri (rt_P sc fm) 446 171 (.iaload) (172) := ri_of (by decide +kernel) rfl
theorem wi_446_172 : ri (rt_P sc fm) 446 172 (.iadd) (173) := ri_of (by decide +kernel) rfl
theorem wi_446_173 : ri (rt_P sc fm) 446 173 (.if_icmp .ge 189) (176) := ri_of (by decide +kernel) rfl
theorem wi_446_176 : ri (rt_P sc fm) 446 176 (.aload_n 0) (177) := ri_of (by decide +kernel) rfl
theorem wi_446_177 : ri (rt_P sc fm) 446 177 (.ldc 26) (179) := ri_of (by decide +kernel) rfl
theorem wi_446_179 : ri (rt_P sc fm) 446 179 (.invokevirtual 402) (182) := ri_of (by decide +kernel) rfl
theorem wi_446_182 : ri (rt_P sc fm) 446 182 (.aload_n 0) (183) := ri_of (by decide +kernel) rfl
theorem wi_446_183 : ri (rt_P sc fm) 446 183 (.aload_n 0) (184) := ri_of (by decide +kernel) rfl
theorem wi_446_184 : ri (rt_P sc fm) 446 184 (.getfield 170) (187) := ri_of (by decide +kernel) rfl
theorem wi_446_187 : ri (rt_P sc fm) 446 187 (.iload_n 2) (188) := ri_of (by decide +kernel) rfl
theorem wi_446_188 : ri (rt_P sc fm) 446 188 (.laload) (189) := ri_of (by decide +kernel) rfl
theorem wi_446_189 : ri (rt_P sc fm) 446 189 (.invokevirtual 765) (192) := ri_of (by decide +kernel) rfl
theorem wi_446_192 : ri (rt_P sc fm) 446 192 (.aload_n 0) (193) := ri_of (by decide +kernel) rfl
theorem wi_446_193 : ri (rt_P sc fm) 446 193 (.ldc_w 776) (196) := ri_of (by decide +kernel) rfl
theorem wi_446_196 : ri (rt_P sc fm) 446 196 (.invokevirtual 402) (199) := ri_of (by decide +kernel) rfl
theorem wi_446_199 : ri (rt_P sc fm) 446 199 (.iconst 0) (200) := ri_of (by decide +kernel) rfl
theorem wi_446_20 : ri (rt_P sc fm) 446 20 (.iload_n 1) (21) := ri_of (by decide +kernel) rfl
theorem wi_446_200 : ri (rt_P sc fm) 446 200 (.istore_n 3) (201) := ri_of (by decide +kernel) rfl
theorem wi_446_201 : ri (rt_P sc fm) 446 201 (.iload_n 3) (202) := ri_of (by decide +kernel) rfl
theorem wi_446_202 : ri (rt_P sc fm) 446 202 (.aload_n 0) (203) := ri_of (by decide +kernel) rfl
theorem wi_446_203 : ri (rt_P sc fm) 446 203 (.getfield 173) (206) := ri_of (by decide +kernel) rfl
theorem wi_446_206 : ri (rt_P sc fm) 446 206 (.iload_n 2) (207) := ri_of (by decide +kernel) rfl
theorem wi_446_207 : ri (rt_P sc fm) 446 207 (.iaload) (208) := ri_of (by decide +kernel) rfl
theorem wi_446_208 : ri (rt_P sc fm) 446 208 (.if_icmp .ge 47) (211) := ri_of (by decide +kernel) rfl
theorem wi_446_21 : ri (rt_P sc fm) 446 21 (.iaload) (22) := ri_of (by decide +kernel) rfl
theorem wi_446_211 : ri (rt_P sc fm) 446 211 (.iload_n 3) (212) := ri_of (by decide +kernel) rfl
theorem wi_446_212 : ri (rt_P sc fm) 446 212 (.ifCond .le 10) (215) := ri_of (by decide +kernel) rfl
theorem wi_446_215 : ri (rt_P sc fm) 446 215 (.aload_n 0) (216) := ri_of (by decide +kernel) rfl
theorem wi_446_216 : ri (rt_P sc fm) 446 216 (.ldc_w 774) (219) := ri_of (by decide +kernel) rfl
theorem wi_446_219 : ri (rt_P sc fm) 446 219 (.invokevirtual 402) (222) := ri_of (by decide +kernel) rfl
theorem wi_446_22 : ri (rt_P sc fm) 446 22 (.ifCond .lt 25) (25) := ri_of (by decide +kernel) rfl
theorem wi_446_222 : ri (rt_P sc fm) 446 222 (.aload_n 0) (223) := ri_of (by decide +kernel) rfl
theorem wi_446_223 : ri (rt_P sc fm) 446 223 (.aload_n 0) (224) := ri_of (by decide +kernel) rfl
theorem wi_446_224 : ri (rt_P sc fm) 446 224 (.getfield 179) (227) := ri_of (by decide +kernel) rfl
theorem wi_446_227 : ri (rt_P sc fm) 446 227 (.bipush 8) (229) := ri_of (by decide +kernel) rfl
theorem wi_446_229 : ri (rt_P sc fm) 446 229 (.iload_n 2) (230) := ri_of (by decide +kernel) rfl
theorem wi_446_230 : ri (rt_P sc fm) 446 230 (.imul) (231) := ri_of (by decide +kernel) rfl
theorem wi_446_231 : ri (rt_P sc fm) 446 231 (.iload_n 3) (232) := ri_of (by decide +kernel) rfl
theorem wi_446_232 : ri (rt_P sc fm) 446 232 (.iadd) (233) := ri_of (by decide +kernel) rfl
theorem wi_446_233 : ri (rt_P sc fm) 446 233 (.laload) (234) := ri_of (by decide +kernel) rfl
theorem wi_446_234 : ri (rt_P sc fm) 446 234 (.invokevirtual 765) (237) := ri_of (by decide +kernel) rfl
theorem wi_446_237 : ri (rt_P sc fm) 446 237 (.aload_n 0) (238) := ri_of (by decide +kernel) rfl
theorem wi_446_238 : ri (rt_P sc fm) 446 238 (.iload_n 2) (239) := ri_of (by decide +kernel) rfl
theorem wi_446_239 : ri (rt_P sc fm) 446 239 (.invokestatic 661) (242) := ri_of (by decide +kernel) rfl
theorem wi_446_242 : ri (rt_P sc fm) 446 242 (.iconst 1) (243) := ri_of (by decide +kernel) rfl
theorem wi_446_243 : ri (rt_P sc fm) 446 243 (.iadd) (244) := ri_of (by decide +kernel) rfl
theorem wi_446_244 : ri (rt_P sc fm) 446 244 (.iload_n 3) (245) := ri_of (by decide +kernel) rfl
theorem wi_446_245 : ri (rt_P sc fm) 446 245 (.iadd) (246) := ri_of (by decide +kernel) rfl
theorem wi_446_246 : ri (rt_P sc fm) 446 246 (.invokevirtual 803) (249) := ri_of (by decide +kernel) rfl
theorem wi_446_249 : ri (rt_P sc fm) 446 249 (.iinc 3 1) (252) := ri_of (by decide +kernel) rfl
theorem wi_446_25 : ri (rt_P sc fm) 446 25 (.aload_n 0) (26) := ri_of (by decide +kernel) rfl
theorem wi_446_252 : ri (rt_P sc fm) 446 252 (.goto (-51)) (255) := ri_of (by decide +kernel) rfl
theorem wi_446_255 : ri (rt_P sc fm) 446 255 (.aload_n 0) (256) := ri_of (by decide +kernel) rfl
theorem wi_446_256 : ri (rt_P sc fm) 446 256 (.ldc_w 786) (259) := ri_of (by decide +kernel) rfl
theorem wi_446_259 : ri (rt_P sc fm) 446 259 (.invokevirtual 402) (262) := ri_of (by decide +kernel) rfl
theorem wi_446_26 : ri (rt_P sc fm) 446 26 (.ldc_w 794) (29) := ri_of (by decide +kernel) rfl
theorem wi_446_262 : ri (rt_P sc fm) 446 262 (.aload_n 0) (263) := ri_of (by decide +kernel) rfl
theorem wi_446_263 : ri (rt_P sc fm) 446 263 (.iload_n 2) (264) := ri_of (by decide +kernel) rfl
theorem wi_446_264 : ri (rt_P sc fm) 446 264 (.invokestatic 661) (267) := ri_of (by decide +kernel) rfl
theorem wi_446_267 : ri (rt_P sc fm) 446 267 (.invokevirtual 803) (270) := ri_of (by decide +kernel) rfl
theorem wi_446_270 : ri (rt_P sc fm) 446 270 (.aload_n 0) (271) := ri_of (by decide +kernel) rfl
theorem wi_446_271 : ri (rt_P sc fm) 446 271 (.ldc_w 806) (274) := ri_of (by decide +kernel) rfl
theorem wi_446_274 : ri (rt_P sc fm) 446 274 (.invokevirtual 402) (277) := ri_of (by decide +kernel) rfl
theorem wi_446_277 : ri (rt_P sc fm) 446 277 (.iconst 0) (278) := ri_of (by decide +kernel) rfl
theorem wi_446_278 : ri (rt_P sc fm) 446 278 (.istore_n 3) (279) := ri_of (by decide +kernel) rfl
theorem wi_446_279 : ri (rt_P sc fm) 446 279 (.iload_n 3) (280) := ri_of (by decide +kernel) rfl
theorem wi_446_280 : ri (rt_P sc fm) 446 280 (.aload_n 0) (281) := ri_of (by decide +kernel) rfl
theorem wi_446_281 : ri (rt_P sc fm) 446 281 (.getfield 182) (284) := ri_of (by decide +kernel) rfl
theorem wi_446_284 : ri (rt_P sc fm) 446 284 (.iload_n 2) (285) := ri_of (by decide +kernel) rfl
theorem wi_446_285 : ri (rt_P sc fm) 446 285 (.iaload) (286) := ri_of (by decide +kernel) rfl
theorem wi_446_286 : ri (rt_P sc fm) 446 286 (.if_icmp .ge 63) (289) := ri_of (by decide +kernel) rfl
theorem wi_446_289 : ri (rt_P sc fm) 446 289 (.bipush 40) (291) := ri_of (by decide +kernel) rfl
theorem wi_446_29 : ri (rt_P sc fm) 446 29 (.invokevirtual 402) (32) := ri_of (by decide +kernel) rfl
theorem wi_446_291 : ri (rt_P sc fm) 446 291 (.iload_n 2) (292) := ri_of (by decide +kernel) rfl
theorem wi_446_292 : ri (rt_P sc fm) 446 292 (.imul) (293) := ri_of (by decide +kernel) rfl
theorem wi_446_293 : ri (rt_P sc fm) 446 293 (.iload_n 3) (294) := ri_of (by decide +kernel) rfl
theorem wi_446_294 : ri (rt_P sc fm) 446 294 (.iadd) (295) := ri_of (by decide +kernel) rfl
theorem wi_446_295 : ri (rt_P sc fm) 446 295 (.istore 4) (297) := ri_of (by decide +kernel) rfl
theorem wi_446_297 : ri (rt_P sc fm) 446 297 (.aload_n 0) (298) := ri_of (by decide +kernel) rfl
theorem wi_446_298 : ri (rt_P sc fm) 446 298 (.getfield 188) (301) := ri_of (by decide +kernel) rfl
theorem wi_446_3 : ri (rt_P sc fm) 446 3 (.invokevirtual 402) (6) := ri_of (by decide +kernel) rfl
theorem wi_446_301 : ri (rt_P sc fm) 446 301 (.iload 4) (303) := ri_of (by decide +kernel) rfl
theorem wi_446_303 : ri (rt_P sc fm) 446 303 (.laload) (304) := ri_of (by decide +kernel) rfl
theorem wi_446_304 : ri (rt_P sc fm) 446 304 (.lconst 0) (305) := ri_of (by decide +kernel) rfl
theorem wi_446_305 : ri (rt_P sc fm) 446 305 (.lcmp) (306) := ri_of (by decide +kernel) rfl
theorem wi_446_306 : ri (rt_P sc fm) 446 306 (.ifCond .eq 21) (309) := ri_of (by decide +kernel) rfl
theorem wi_446_309 : ri (rt_P sc fm) 446 309 (.aload_n 0) (310) := ri_of (by decide +kernel) rfl
theorem wi_446_310 : ri (rt_P sc fm) 446 310 (.aload_n 0) (311) := ri_of (by decide +kernel) rfl
theorem wi_446_311 : ri (rt_P sc fm) 446 311 (.getfield 188) (314) := ri_of (by decide +kernel) rfl
theorem wi_446_314 : ri (rt_P sc fm) 446 314 (.iload 4) (316) := ri_of (by decide +kernel) rfl
theorem wi_446_316 : ri (rt_P sc fm) 446 316 (.laload) (317) := ri_of (by decide +kernel) rfl
theorem wi_446_317 : ri (rt_P sc fm) 446 317 (.invokevirtual 765) (320) := ri_of (by decide +kernel) rfl
theorem wi_446_32 : ri (rt_P sc fm) 446 32 (.aload_n 0) (33) := ri_of (by decide +kernel) rfl
theorem wi_446_320 : ri (rt_P sc fm) 446 320 (.aload_n 0) (321) := ri_of (by decide +kernel) rfl
theorem wi_446_321 : ri (rt_P sc fm) 446 321 (.ldc_w 794) (324) := ri_of (by decide +kernel) rfl
theorem wi_446_324 : ri (rt_P sc fm) 446 324 (.invokevirtual 402) (327) := ri_of (by decide +kernel) rfl
theorem wi_446_327 : ri (rt_P sc fm) 446 327 (.aload_n 0) (328) := ri_of (by decide +kernel) rfl
theorem wi_446_328 : ri (rt_P sc fm) 446 328 (.iload_n 2) (329) := ri_of (by decide +kernel) rfl
theorem wi_446_329 : ri (rt_P sc fm) 446 329 (.iload 4) (331) := ri_of (by decide +kernel) rfl
theorem wi_446_33 : ri (rt_P sc fm) 446 33 (.aload_n 0) (34) := ri_of (by decide +kernel) rfl
theorem wi_446_331 : ri (rt_P sc fm) 446 331 (.iconst 0) (332) := ri_of (by decide +kernel) rfl
theorem wi_446_332 : ri (rt_P sc fm) 446 332 (.iconst 0) (333) := ri_of (by decide +kernel) rfl
theorem wi_446_333 : ri (rt_P sc fm) 446 333 (.invokevirtual 808) (336) := ri_of (by decide +kernel) rfl
theorem wi_446_336 : ri (rt_P sc fm) 446 336 (.aload_n 0) (337) := ri_of (by decide +kernel) rfl
theorem wi_446_337 : ri (rt_P sc fm) 446 337 (.ldc_w 801) (340) := ri_of (by decide +kernel) rfl
theorem wi_446_34 : ri (rt_P sc fm) 446 34 (.getfield 152) (37) := ri_of (by decide +kernel) rfl
theorem wi_446_340 : ri (rt_P sc fm) 446 340 (.invokevirtual 402) (343) := ri_of (by decide +kernel) rfl
theorem wi_446_343 : ri (rt_P sc fm) 446 343 (.iinc 3 1) (346) := ri_of (by decide +kernel) rfl
theorem wi_446_346 : ri (rt_P sc fm) 446 346 (.goto (-67)) (349) := ri_of (by decide +kernel) rfl
theorem wi_446_349 : ri (rt_P sc fm) 446 349 (.aload_n 0) (350) := ri_of (by decide +kernel) rfl
theorem wi_446_350 : ri (rt_P sc fm) 446 350 (.ldc_w 811) (353) := ri_of (by decide +kernel) rfl
theorem wi_446_353 : ri (rt_P sc fm) 446 353 (.invokevirtual 402) (356) := ri_of (by decide +kernel) rfl
theorem wi_446_356 : ri (rt_P sc fm) 446 356 (.iinc 2 1) (359) := ri_of (by decide +kernel) rfl
theorem wi_446_359 : ri (rt_P sc fm) 446 359 (.goto (-198)) (362) := ri_of (by decide +kernel) rfl
theorem wi_446_362 : ri (rt_P sc fm) 446 362 (.aload_n 0) (363) := ri_of (by decide +kernel) rfl
theorem wi_446_363 : ri (rt_P sc fm) 446 363 (.ldc_w 811) (366) := ri_of (by decide +kernel) rfl
theorem wi_446_366 : ri (rt_P sc fm) 446 366 (.invokevirtual 402) (369) := ri_of (by decide +kernel) rfl
theorem wi_446_369 : ri (rt_P sc fm) 446 369 (.return_) (370) := ri_of (by decide +kernel) rfl
theorem wi_446_37 : ri (rt_P sc fm) 446 37 (.aload_n 0) (38) := ri_of (by decide +kernel) rfl
theorem wi_446_38 : ri (rt_P sc fm) 446 38 (.getfield 155) (41) := ri_of (by decide +kernel) rfl
theorem wi_446_41 : ri (rt_P sc fm) 446 41 (.iload_n 1) (42) := ri_of (by decide +kernel) rfl
theorem wi_446_42 : ri (rt_P sc fm) 446 42 (.iaload) (43) := ri_of (by decide +kernel) rfl
theorem wi_446_43 : ri (rt_P sc fm) 446 43 (.laload) (44) := ri_of (by decide +kernel) rfl
theorem wi_446_44 : ri (rt_P sc fm) 446 44 (.invokevirtual 765) (47) := ri_of (by decide +kernel) rfl
theorem wi_446_47 : ri (rt_P sc fm) 446 47 (.aload_n 0) (48) := ri_of (by decide +kernel) rfl
theorem wi_446_48 : ri (rt_P sc fm) 446 48 (.bipush 100) (50) := ri_of (by decide +kernel) rfl
theorem wi_446_50 : ri (rt_P sc fm) 446 50 (.iload_n 1) (51) := ri_of (by decide +kernel) rfl
theorem wi_446_51 : ri (rt_P sc fm) 446 51 (.imul) (52) := ri_of (by decide +kernel) rfl
theorem wi_446_52 : ri (rt_P sc fm) 446 52 (.invokevirtual 803) (55) := ri_of (by decide +kernel) rfl
theorem wi_446_55 : ri (rt_P sc fm) 446 55 (.aload_n 0) (56) := ri_of (by decide +kernel) rfl
theorem wi_446_56 : ri (rt_P sc fm) 446 56 (.ldc_w 806) (59) := ri_of (by decide +kernel) rfl
theorem wi_446_59 : ri (rt_P sc fm) 446 59 (.invokevirtual 402) (62) := ri_of (by decide +kernel) rfl
theorem wi_446_6 : ri (rt_P sc fm) 446 6 (.aload_n 0) (7) := ri_of (by decide +kernel) rfl
theorem wi_446_62 : ri (rt_P sc fm) 446 62 (.iconst 0) (63) := ri_of (by decide +kernel) rfl
theorem wi_446_63 : ri (rt_P sc fm) 446 63 (.istore_n 2) (64) := ri_of (by decide +kernel) rfl
theorem wi_446_64 : ri (rt_P sc fm) 446 64 (.iload_n 2) (65) := ri_of (by decide +kernel) rfl
theorem wi_446_65 : ri (rt_P sc fm) 446 65 (.aload_n 0) (66) := ri_of (by decide +kernel) rfl
theorem wi_446_66 : ri (rt_P sc fm) 446 66 (.getfield 158) (69) := ri_of (by decide +kernel) rfl
theorem wi_446_69 : ri (rt_P sc fm) 446 69 (.iload_n 1) (70) := ri_of (by decide +kernel) rfl
theorem wi_446_7 : ri (rt_P sc fm) 446 7 (.aload_n 0) (8) := ri_of (by decide +kernel) rfl
theorem wi_446_70 : ri (rt_P sc fm) 446 70 (.iaload) (71) := ri_of (by decide +kernel) rfl
theorem wi_446_71 : ri (rt_P sc fm) 446 71 (.if_icmp .ge 85) (74) := ri_of (by decide +kernel) rfl
theorem wi_446_74 : ri (rt_P sc fm) 446 74 (.aload_n 0) (75) := ri_of (by decide +kernel) rfl
theorem wi_446_75 : ri (rt_P sc fm) 446 75 (.ldc 24) (77) := ri_of (by decide +kernel) rfl
theorem wi_446_77 : ri (rt_P sc fm) 446 77 (.invokevirtual 402) (80) := ri_of (by decide +kernel) rfl
theorem wi_446_8 : ri (rt_P sc fm) 446 8 (.getfield 152) (11) := ri_of (by decide +kernel) rfl
theorem wi_446_80 : ri (rt_P sc fm) 446 80 (.aload_n 0) (81) := ri_of (by decide +kernel) rfl
theorem wi_446_81 : ri (rt_P sc fm) 446 81 (.aload_n 0) (82) := ri_of (by decide +kernel) rfl
theorem wi_446_82 : ri (rt_P sc fm) 446 82 (.getfield 164) (85) := ri_of (by decide +kernel) rfl
theorem wi_446_85 : ri (rt_P sc fm) 446 85 (.bipush 8) (87) := ri_of (by decide +kernel) rfl
theorem wi_446_87 : ri (rt_P sc fm) 446 87 (.iload_n 1) (88) := ri_of (by decide +kernel) rfl
theorem wi_446_88 : ri (rt_P sc fm) 446 88 (.imul) (89) := ri_of (by decide +kernel) rfl
theorem wi_446_89 : ri (rt_P sc fm) 446 89 (.iload_n 2) (90) := ri_of (by decide +kernel) rfl
theorem wi_446_90 : ri (rt_P sc fm) 446 90 (.iadd) (91) := ri_of (by decide +kernel) rfl
theorem wi_446_91 : ri (rt_P sc fm) 446 91 (.laload) (92) := ri_of (by decide +kernel) rfl
theorem wi_446_92 : ri (rt_P sc fm) 446 92 (.invokevirtual 765) (95) := ri_of (by decide +kernel) rfl
theorem wi_446_95 : ri (rt_P sc fm) 446 95 (.aload_n 0) (96) := ri_of (by decide +kernel) rfl
theorem wi_446_96 : ri (rt_P sc fm) 446 96 (.bipush 100) (98) := ri_of (by decide +kernel) rfl
theorem wi_446_98 : ri (rt_P sc fm) 446 98 (.iload_n 1) (99) := ri_of (by decide +kernel) rfl
theorem wi_446_99 : ri (rt_P sc fm) 446 99 (.imul) (100) := ri_of (by decide +kernel) rfl
theorem wk_446_22 : rx_kt (rt_P sc fm) 446 22 = some (.ref (rx_K 4)) := (by decide +kernel : rt_kt 446 22 = some (.ref (rx_K 4)))
theorem wk_446_24 : rx_kt (rt_P sc fm) 446 24 = some (.ref (rx_K 5)) := (by decide +kernel : rt_kt 446 24 = some (.ref (rx_K 5)))
theorem wk_446_26 : rx_kt (rt_P sc fm) 446 26 = some (.ref (rx_K 6)) := (by decide +kernel : rt_kt 446 26 = some (.ref (rx_K 6)))
theorem wk_446_774 : rx_kt (rt_P sc fm) 446 774 = some (.ref (rx_K 51)) := (by decide +kernel : rt_kt 446 774 = some (.ref (rx_K 51)))
theorem wk_446_776 : rx_kt (rt_P sc fm) 446 776 = some (.ref (rx_K 52)) := (by decide +kernel : rt_kt 446 776 = some (.ref (rx_K 52)))
theorem wk_446_778 : rx_kt (rt_P sc fm) 446 778 = some (.ref (rx_K 53)) := (by decide +kernel : rt_kt 446 778 = some (.ref (rx_K 53)))
theorem wk_446_786 : rx_kt (rt_P sc fm) 446 786 = some (.ref (rx_K 54)) := (by decide +kernel : rt_kt 446 786 = some (.ref (rx_K 54)))
theorem wk_446_794 : rx_kt (rt_P sc fm) 446 794 = some (.ref (rx_K 33)) := (by decide +kernel : rt_kt 446 794 = some (.ref (rx_K 33)))
theorem wk_446_801 : rx_kt (rt_P sc fm) 446 801 = some (.ref (rx_K 34)) := (by decide +kernel : rt_kt 446 801 = some (.ref (rx_K 34)))
theorem wk_446_806 : rx_kt (rt_P sc fm) 446 806 = some (.ref (rx_K 56)) := (by decide +kernel : rt_kt 446 806 = some (.ref (rx_K 56)))
theorem wk_446_811 : rx_kt (rt_P sc fm) 446 811 = some (.ref (rx_K 57)) := (by decide +kernel : rt_kt 446 811 = some (.ref (rx_K 57)))
theorem wm_447 : rx_ml (rt_P sc fm) 447 = 6 := (by decide +kernel : rt_ml 447 = 6)
theorem wr_446 : rx_rt (rt_P sc fm) 446 = none := (by decide +kernel : rt_rt 446 = none)
/-- MarkHouseModel.tellClass(I)V -/
def d_446 (n : Nat) (a1 : Int32) (c : cS) : Option (cS) :=
  Option.bind (d_362 n 4 c) (fun r1 =>
  if ib a1 12 then
  Option.bind (d_363 n (r1.2 200 (ix a1)) r1) (fun r3 =>
  if ib a1 12 then
  jn (fun p5 : cS =>
    Option.bind (d_442 n (100 * a1) p5) (fun r6 =>
    Option.bind (d_362 n 56 r6) (fun r7 =>
    Option.bind (whl (R := (cS)) (fun s9 : Int32 × cS =>
      if ib a1 12 then
      if (s9.2.1 202 (ix a1)) ≤ s9.1 then
        some (.inr s9.2)
      else
        Option.bind (d_362 n 5 s9.2) (fun r11 =>
        if ib ((8 * a1) + s9.1) 96 then
        Option.bind (d_363 n (r11.2 204 (ix ((8 * a1) + s9.1))) r11) (fun r13 =>
        Option.bind (d_442 n (((100 * a1) + 1) + s9.1) r13) (fun r14 =>
        if ib ((8 * a1) + s9.1) 96 then
        jn (fun p16 : cS =>
          Option.bind (d_362 n 34 p16) (fun r17 =>
          lt (s9.1 + 1 : Int32) (fun v19 =>
          some (.inl (v19, r17)))))
        (fun j143 =>
        if (r14.1 205 (ix ((8 * a1) + s9.1))) = 0 then
          j143 r14
        else
          Option.bind (d_362 n 53 r14) (fun r21 =>
          if ib ((8 * a1) + s9.1) 96 then
          Option.bind (d_365 n (r21.1 205 (ix ((8 * a1) + s9.1))) r21) (fun r23 =>
          j143 r23)
          else none))
        else none))
        else none)
      else none) n (0, r7))
    (fun x24 : cS =>
      lt ((8 * a1) : Int32) (fun v26 =>
      Option.bind (whl (R := (cS)) (fun s28 : Int32 × cS =>
        if ib a1 12 then
        if ((8 * a1) + (s28.2.1 203 (ix a1))) ≤ s28.1 then
          some (.inr s28.2)
        else
          Option.bind (d_362 n 6 s28.2) (fun r30 =>
          if ib s28.1 96 then
          Option.bind (d_363 n (r30.2 206 (ix s28.1)) r30) (fun r32 =>
          Option.bind (d_362 n 52 r32) (fun r33 =>
          Option.bind (whl (R := (cS)) (fun s35 : Int32 × cS =>
            if ib s28.1 96 then
            if (s35.2.1 207 (ix s28.1)) ≤ s35.1 then
              some (.inr s35.2)
            else
              jn (fun p37 : cS =>
                if ib ((8 * s28.1) + s35.1) 768 then
                Option.bind (d_363 n (p37.2 209 (ix ((8 * s28.1) + s35.1))) p37) (fun r39 =>
                Option.bind (d_422 n s28.1) (fun v40 =>
                Option.bind (d_442 n ((v40 + 1) + s35.1) r39) (fun r41 =>
                lt (s35.1 + 1 : Int32) (fun v43 =>
                some (.inl (v43, r41))))))
                else none)
              (fun j222 =>
              if s35.1 ≤ 0 then
                j222 s35.2
              else
                Option.bind (d_362 n 51 s35.2) (fun r45 =>
                j222 r45))
            else none) n (0, r33))
          (fun x46 : cS =>
            Option.bind (d_362 n 54 x46) (fun r47 =>
            Option.bind (d_422 n s28.1) (fun v48 =>
            Option.bind (d_442 n v48 r47) (fun r49 =>
            Option.bind (d_362 n 56 r49) (fun r50 =>
            Option.bind (whl (R := (cS)) (fun s52 : Int32 × cS =>
              if ib s28.1 96 then
              if (s52.2.1 210 (ix s28.1)) ≤ s52.1 then
                some (.inr s52.2)
              else
                lt (((40 * s28.1) + s52.1) : Int32) (fun v55 =>
                if ib v55 3840 then
                jn (fun p58 : cS =>
                  Option.bind (d_447 n s28.1 v55 0 0 p58) (fun r59 =>
                  Option.bind (d_362 n 34 r59) (fun r60 =>
                  lt (s52.1 + 1 : Int32) (fun v62 =>
                  some (.inl (v62, r60))))))
                (fun j327 =>
                if (lg_cmp (s52.2.2 212 (ix v55)) 0) = 0 then
                  j327 s52.2
                else
                  if ib v55 3840 then
                  Option.bind (d_363 n (s52.2.2 212 (ix v55)) s52.2) (fun r65 =>
                  Option.bind (d_362 n 33 r65) (fun r66 =>
                  j327 r66))
                  else none)
                else none)
              else none) n (0, r50))
            (fun x67 : cS =>
              Option.bind (d_362 n 57 x67) (fun r68 =>
              lt (s28.1 + 1 : Int32) (fun v70 =>
              some (.inl (v70, r68))))))))))))
          else none)
        else none) n (v26, x24))
      (fun x72 : cS =>
        Option.bind (d_362 n 57 x72) (fun r73 =>
        some r73)))))))
  (fun j47 =>
  if (r3.1 201 (ix a1)) < 0 then
    j47 r3
  else
    Option.bind (d_362 n 33 r3) (fun r74 =>
    if ib a1 12 then
    if ib (r74.1 201 (ix a1)) 12 then
    Option.bind (d_363 n (r74.2 200 (ix (r74.1 201 (ix a1)))) r74) (fun r77 =>
    j47 r77)
    else none
    else none))
  else none)
  else none)
theorem sp_446 {F Lo n : Nat} {a1 : Int32} {c y : cS} {w : cW} {K : cS → Prop} {Q : ((Option Value) ⊕ String) → List va_E → Prop} (hw : rOK fm w) (hF : 8 ≤ F) (hLo : 176 ≤ Lo)  (h : wp (d_446 n a1 c) K) (hQ : ∀ r, K r → Q (.inl none) (hq false r y w)) : rs (rt_P sc fm) 446 F Lo 0 [(0, .ref 174), (1, .int a1)] [] (hq false c y w) Q := by
  unfold d_446 at h
  obtain ⟨lv, elv⟩ : ∃ lv : rx_L, lv = [(0, .ref 174), (1, .int a1)] := ⟨_, rfl⟩
  rw [← elv]
  have l0 : rx_ld lv 0 = some (.ref 174) := by rw [elv]; rfl
  have l1 : rx_ld lv 1 = some (.int a1) := by rw [elv]; rfl
  refine rs_aldn wi_446_0 l0 ?_
  refine rs_ldcS wi_446_1 wk_446_22 ?_
  refine rs_V wi_446_3 wc_446_402 rfl (dq_isa tf_174_0 wa_15_362) (Nat.le_trans (by decide) hF) (ml_le wm_362 (Nat.le_trans (by decide) hLo)) rfl (sp_362 hw (Nat.le_trans (by decide : 4 ≤ 8 - 1) (Nat.sub_le_sub_right hF 1)) (ml_sub wm_362 (Nat.le_trans (by decide : 85 ≤ 176 - 22) (Nat.sub_le_sub_right hLo 22))) (by decide +kernel) (wp_bind h) (fun r1 h => rs_back0 ?_))
  refine rs_aldn wi_446_6 l0 ?_
  refine rs_aldn wi_446_7 l0 ?_
  refine dq_gr wi_446_8 wf_446_152 tf_174_38 ?_
  refine rs_ildn wi_446_11 l1 ?_
  obtain ⟨g2, h⟩ := wp_gd h
  refine dq_lald wi_446_12 t_200 g2 ?_
  refine rs_V wi_446_13 wc_446_765 rfl (dq_isa tf_174_0 wa_15_363) (Nat.le_trans (by decide) hF) (ml_le wm_363 (Nat.le_trans (by decide) hLo)) rfl (sp_363 hw (Nat.le_trans (by decide : 2 ≤ 8 - 1) (Nat.sub_le_sub_right hF 1)) (ml_sub wm_363 (Nat.le_trans (by decide : 44 ≤ 176 - 22) (Nat.sub_le_sub_right hLo 22))) (wp_bind h) (fun r3 h => rs_back0 ?_))
  refine rs_aldn wi_446_16 l0 ?_
  refine dq_gr wi_446_17 wf_446_155 tf_174_39 ?_
  refine rs_ildn wi_446_20 l1 ?_
  obtain ⟨g4, h⟩ := wp_gd h
  refine dq_iald wi_446_21 t_201 g4 ?_
  refine wp_jn (B := fun p5 : cS => ∀ lv, rx_ld lv 0 = some (.ref 174) → rx_ld lv 1 = some (.int a1) → rs (rt_P sc fm) 446 F Lo 47 lv [] (hq false p5 y w) Q) h (fun p5 h lv l0 l1 => ?_) (fun j47 hj47 h => ?_)
  ·
    refine rs_aldn wi_446_47 l0 ?_
    refine rs_pure wi_446_48 rfl ?_
    refine rs_topi (v := 100) (by decide) ?_
    refine rs_ildn wi_446_50 l1 ?_
    refine rs_pure wi_446_51 rfl ?_
    refine rs_V wi_446_52 wc_446_803 rfl (dq_isa tf_174_0 wa_15_442) (Nat.le_trans (by decide) hF) (ml_le wm_442 (Nat.le_trans (by decide) hLo)) rfl (sp_442 hw (Nat.le_trans (by decide : 7 ≤ 8 - 1) (Nat.sub_le_sub_right hF 1)) (ml_sub wm_442 (Nat.le_trans (by decide : 154 ≤ 176 - 22) (Nat.sub_le_sub_right hLo 22))) (wp_bind h) (fun r6 h => rs_back0 ?_))
    refine rs_aldn wi_446_55 l0 ?_
    refine rs_ldcwS wi_446_56 wk_446_806 ?_
    refine rs_V wi_446_59 wc_446_402 rfl (dq_isa tf_174_0 wa_15_362) (Nat.le_trans (by decide) hF) (ml_le wm_362 (Nat.le_trans (by decide) hLo)) rfl (sp_362 hw (Nat.le_trans (by decide : 4 ≤ 8 - 1) (Nat.sub_le_sub_right hF 1)) (ml_sub wm_362 (Nat.le_trans (by decide : 85 ≤ 176 - 22) (Nat.sub_le_sub_right hLo 22))) (by decide +kernel) (wp_bind h) (fun r7 h => rs_back0 ?_))
    refine rs_pure wi_446_62 rfl ?_
    refine rs_topi (v := 0) (by decide) ?_
    refine dl_istn wi_446_63 rfl (fun lv l2 t8 => ?_)
    have l0 := t8 _ _ (by decide) (Or.inl rfl) l0
    have l1 := t8 _ _ (by decide) (Or.inl rfl) l1
    refine whl_ex (A := fun s9 : Int32 × cS => ∀ lv, rx_ld lv 0 = some (.ref 174) → rx_ld lv 1 = some (.int a1) → rx_ld lv 2 = some (.int s9.1) → rs (rt_P sc fm) 446 F Lo 64 lv [] (hq false s9.2 y w) Q) (B := (fun x24 : cS => ∀ lv, rx_ld lv 0 = some (.ref 174) → rx_ld lv 1 = some (.int a1) → rs (rt_P sc fm) 446 F Lo 156 lv [] (hq false x24 y w) Q)) ?_ ?_ _ _ (wp_bind h) _ l0 l1 l2
    · intro s9 h lv l0 l1 l2
      refine rs_ildn wi_446_64 l2 ?_
      refine rs_aldn wi_446_65 l0 ?_
      refine dq_gr wi_446_66 wf_446_158 tf_174_40 ?_
      refine rs_ildn wi_446_69 l1 ?_
      obtain ⟨g10, h⟩ := wp_gd h
      refine dq_iald wi_446_70 t_202 g10 ?_
      refine rs_icge (tg := 156) wi_446_71 ⟨by decide, by decide⟩ (fun q => ?_) (fun q => ?_)
      ·
        have h := wp_pos h q
        exact h _ l0 l1
      ·
        have h := wp_neg h q
        refine rs_aldn wi_446_74 l0 ?_
        refine rs_ldcS wi_446_75 wk_446_24 ?_
        refine rs_V wi_446_77 wc_446_402 rfl (dq_isa tf_174_0 wa_15_362) (Nat.le_trans (by decide) hF) (ml_le wm_362 (Nat.le_trans (by decide) hLo)) rfl (sp_362 hw (Nat.le_trans (by decide : 4 ≤ 8 - 1) (Nat.sub_le_sub_right hF 1)) (ml_sub wm_362 (Nat.le_trans (by decide : 85 ≤ 176 - 22) (Nat.sub_le_sub_right hLo 22))) (by decide +kernel) (wp_bind h) (fun r11 h => rs_back0 ?_))
        refine rs_aldn wi_446_80 l0 ?_
        refine rs_aldn wi_446_81 l0 ?_
        refine dq_gr wi_446_82 wf_446_164 tf_174_42 ?_
        refine rs_pure wi_446_85 rfl ?_
        refine rs_topi (v := 8) (by decide) ?_
        refine rs_ildn wi_446_87 l1 ?_
        refine rs_pure wi_446_88 rfl ?_
        refine rs_ildn wi_446_89 l2 ?_
        refine rs_pure wi_446_90 rfl ?_
        obtain ⟨g12, h⟩ := wp_gd h
        refine dq_lald wi_446_91 t_204 g12 ?_
        refine rs_V wi_446_92 wc_446_765 rfl (dq_isa tf_174_0 wa_15_363) (Nat.le_trans (by decide) hF) (ml_le wm_363 (Nat.le_trans (by decide) hLo)) rfl (sp_363 hw (Nat.le_trans (by decide : 2 ≤ 8 - 1) (Nat.sub_le_sub_right hF 1)) (ml_sub wm_363 (Nat.le_trans (by decide : 44 ≤ 176 - 22) (Nat.sub_le_sub_right hLo 22))) (wp_bind h) (fun r13 h => rs_back0 ?_))
        refine rs_aldn wi_446_95 l0 ?_
        refine rs_pure wi_446_96 rfl ?_
        refine rs_topi (v := 100) (by decide) ?_
        refine rs_ildn wi_446_98 l1 ?_
        refine rs_pure wi_446_99 rfl ?_
        refine rs_pure wi_446_100 rfl ?_
        refine rs_topi (v := 1) (by decide) ?_
        refine rs_pure wi_446_101 rfl ?_
        refine rs_ildn wi_446_102 l2 ?_
        refine rs_pure wi_446_103 rfl ?_
        refine rs_V wi_446_104 wc_446_803 rfl (dq_isa tf_174_0 wa_15_442) (Nat.le_trans (by decide) hF) (ml_le wm_442 (Nat.le_trans (by decide) hLo)) rfl (sp_442 hw (Nat.le_trans (by decide : 7 ≤ 8 - 1) (Nat.sub_le_sub_right hF 1)) (ml_sub wm_442 (Nat.le_trans (by decide : 154 ≤ 176 - 22) (Nat.sub_le_sub_right hLo 22))) (wp_bind h) (fun r14 h => rs_back0 ?_))
        refine rs_aldn wi_446_107 l0 ?_
        refine dq_gr wi_446_108 wf_446_167 tf_174_43 ?_
        refine rs_pure wi_446_111 rfl ?_
        refine rs_topi (v := 8) (by decide) ?_
        refine rs_ildn wi_446_113 l1 ?_
        refine rs_pure wi_446_114 rfl ?_
        refine rs_ildn wi_446_115 l2 ?_
        refine rs_pure wi_446_116 rfl ?_
        obtain ⟨g15, h⟩ := wp_gd h
        refine dq_iald wi_446_117 t_205 g15 ?_
        refine wp_jn (B := fun p16 : cS => ∀ lv, rx_ld lv 0 = some (.ref 174) → rx_ld lv 1 = some (.int a1) → rx_ld lv 2 = some (.int s9.1) → rs (rt_P sc fm) 446 F Lo 143 lv [] (hq false p16 y w) Q) h (fun p16 h lv l0 l1 l2 => ?_) (fun j143 hj143 h => ?_)
        ·
          refine rs_aldn wi_446_143 l0 ?_
          refine rs_ldcwS wi_446_144 wk_446_801 ?_
          refine rs_V wi_446_147 wc_446_402 rfl (dq_isa tf_174_0 wa_15_362) (Nat.le_trans (by decide) hF) (ml_le wm_362 (Nat.le_trans (by decide) hLo)) rfl (sp_362 hw (Nat.le_trans (by decide : 4 ≤ 8 - 1) (Nat.sub_le_sub_right hF 1)) (ml_sub wm_362 (Nat.le_trans (by decide : 85 ≤ 176 - 22) (Nat.sub_le_sub_right hLo 22))) (by decide +kernel) (wp_bind h) (fun r17 h => rs_back0 ?_))
          obtain ⟨v19, e20, h⟩ := wp_lt h
          refine dl_inc wi_446_150 l2 rfl e20 (fun lv l2 t18 => ?_)
          have l0 := t18 _ _ (by decide) (Or.inl rfl) l0
          have l1 := t18 _ _ (by decide) (Or.inl rfl) l1
          refine rs_goto (tg := 64) wi_446_153 ⟨by decide, by decide⟩ ?_
          exact h _ l0 l1 l2
        refine rs_ifeq (tg := 143) wi_446_118 ⟨by decide, by decide⟩ (fun q => ?_) (fun q => ?_)
        ·
          have h := wp_pos h q
          exact hj143 _ h _ l0 l1 l2
        ·
          have h := wp_neg h q
          refine rs_aldn wi_446_121 l0 ?_
          refine rs_ldcwS wi_446_122 wk_446_778 ?_
          refine rs_V wi_446_125 wc_446_402 rfl (dq_isa tf_174_0 wa_15_362) (Nat.le_trans (by decide) hF) (ml_le wm_362 (Nat.le_trans (by decide) hLo)) rfl (sp_362 hw (Nat.le_trans (by decide : 4 ≤ 8 - 1) (Nat.sub_le_sub_right hF 1)) (ml_sub wm_362 (Nat.le_trans (by decide : 85 ≤ 176 - 22) (Nat.sub_le_sub_right hLo 22))) (by decide +kernel) (wp_bind h) (fun r21 h => rs_back0 ?_))
          refine rs_aldn wi_446_128 l0 ?_
          refine rs_aldn wi_446_129 l0 ?_
          refine dq_gr wi_446_130 wf_446_167 tf_174_43 ?_
          refine rs_pure wi_446_133 rfl ?_
          refine rs_topi (v := 8) (by decide) ?_
          refine rs_ildn wi_446_135 l1 ?_
          refine rs_pure wi_446_136 rfl ?_
          refine rs_ildn wi_446_137 l2 ?_
          refine rs_pure wi_446_138 rfl ?_
          obtain ⟨g22, h⟩ := wp_gd h
          refine dq_iald wi_446_139 t_205 g22 ?_
          refine rs_V wi_446_140 wc_446_783 rfl (dq_isa tf_174_0 wa_15_365) (Nat.le_trans (by decide) hF) (ml_le wm_365 (Nat.le_trans (by decide) hLo)) rfl (sp_365 hw (Nat.le_trans (by decide : 5 ≤ 8 - 1) (Nat.sub_le_sub_right hF 1)) (ml_sub wm_365 (Nat.le_trans (by decide : 107 ≤ 176 - 21) (Nat.sub_le_sub_right hLo 21))) (wp_bind h) (fun r23 h => rs_back0 ?_))
          exact hj143 _ h _ l0 l1 l2
    ·
      intro x24 h lv l0 l1
      refine rs_pure wi_446_156 rfl ?_
      refine rs_topi (v := 8) (by decide) ?_
      refine rs_ildn wi_446_158 l1 ?_
      refine rs_pure wi_446_159 rfl ?_
      obtain ⟨v26, e27, h⟩ := wp_lt h
      refine rs_topi e27 ?_
      refine dl_istn wi_446_160 rfl (fun lv l2 t25 => ?_)
      have l0 := t25 _ _ (by decide) (Or.inl rfl) l0
      have l1 := t25 _ _ (by decide) (Or.inl rfl) l1
      refine whl_ex (A := fun s28 : Int32 × cS => ∀ lv, rx_ld lv 0 = some (.ref 174) → rx_ld lv 1 = some (.int a1) → rx_ld lv 2 = some (.int s28.1) → rs (rt_P sc fm) 446 F Lo 161 lv [] (hq false s28.2 y w) Q) (B := (fun x72 : cS => ∀ lv, rx_ld lv 0 = some (.ref 174) → rs (rt_P sc fm) 446 F Lo 362 lv [] (hq false x72 y w) Q)) ?_ ?_ _ _ (wp_bind h) _ l0 l1 l2
      · intro s28 h lv l0 l1 l2
        refine rs_ildn wi_446_161 l2 ?_
        refine rs_pure wi_446_162 rfl ?_
        refine rs_topi (v := 8) (by decide) ?_
        refine rs_ildn wi_446_164 l1 ?_
        refine rs_pure wi_446_165 rfl ?_
        refine rs_aldn wi_446_166 l0 ?_
        refine dq_gr wi_446_167 wf_446_161 tf_174_41 ?_
        refine rs_ildn wi_446_170 l1 ?_
        obtain ⟨g29, h⟩ := wp_gd h
        refine dq_iald wi_446_171 t_203 g29 ?_
        refine rs_pure wi_446_172 rfl ?_
        refine rs_icge (tg := 362) wi_446_173 ⟨by decide, by decide⟩ (fun q => ?_) (fun q => ?_)
        ·
          have h := wp_pos h q
          exact h _ l0
        ·
          have h := wp_neg h q
          refine rs_aldn wi_446_176 l0 ?_
          refine rs_ldcS wi_446_177 wk_446_26 ?_
          refine rs_V wi_446_179 wc_446_402 rfl (dq_isa tf_174_0 wa_15_362) (Nat.le_trans (by decide) hF) (ml_le wm_362 (Nat.le_trans (by decide) hLo)) rfl (sp_362 hw (Nat.le_trans (by decide : 4 ≤ 8 - 1) (Nat.sub_le_sub_right hF 1)) (ml_sub wm_362 (Nat.le_trans (by decide : 85 ≤ 176 - 22) (Nat.sub_le_sub_right hLo 22))) (by decide +kernel) (wp_bind h) (fun r30 h => rs_back0 ?_))
          refine rs_aldn wi_446_182 l0 ?_
          refine rs_aldn wi_446_183 l0 ?_
          refine dq_gr wi_446_184 wf_446_170 tf_174_44 ?_
          refine rs_ildn wi_446_187 l2 ?_
          obtain ⟨g31, h⟩ := wp_gd h
          refine dq_lald wi_446_188 t_206 g31 ?_
          refine rs_V wi_446_189 wc_446_765 rfl (dq_isa tf_174_0 wa_15_363) (Nat.le_trans (by decide) hF) (ml_le wm_363 (Nat.le_trans (by decide) hLo)) rfl (sp_363 hw (Nat.le_trans (by decide : 2 ≤ 8 - 1) (Nat.sub_le_sub_right hF 1)) (ml_sub wm_363 (Nat.le_trans (by decide : 44 ≤ 176 - 22) (Nat.sub_le_sub_right hLo 22))) (wp_bind h) (fun r32 h => rs_back0 ?_))
          refine rs_aldn wi_446_192 l0 ?_
          refine rs_ldcwS wi_446_193 wk_446_776 ?_
          refine rs_V wi_446_196 wc_446_402 rfl (dq_isa tf_174_0 wa_15_362) (Nat.le_trans (by decide) hF) (ml_le wm_362 (Nat.le_trans (by decide) hLo)) rfl (sp_362 hw (Nat.le_trans (by decide : 4 ≤ 8 - 1) (Nat.sub_le_sub_right hF 1)) (ml_sub wm_362 (Nat.le_trans (by decide : 85 ≤ 176 - 22) (Nat.sub_le_sub_right hLo 22))) (by decide +kernel) (wp_bind h) (fun r33 h => rs_back0 ?_))
          refine rs_pure wi_446_199 rfl ?_
          refine rs_topi (v := 0) (by decide) ?_
          refine dl_istn wi_446_200 rfl (fun lv l3 t34 => ?_)
          have l0 := t34 _ _ (by decide) (Or.inl rfl) l0
          have l1 := t34 _ _ (by decide) (Or.inl rfl) l1
          have l2 := t34 _ _ (by decide) (Or.inl rfl) l2
          refine whl_ex (A := fun s35 : Int32 × cS => ∀ lv, rx_ld lv 0 = some (.ref 174) → rx_ld lv 1 = some (.int a1) → rx_ld lv 2 = some (.int s28.1) → rx_ld lv 3 = some (.int s35.1) → rs (rt_P sc fm) 446 F Lo 201 lv [] (hq false s35.2 y w) Q) (B := (fun x46 : cS => ∀ lv, rx_ld lv 0 = some (.ref 174) → rx_ld lv 1 = some (.int a1) → rx_ld lv 2 = some (.int s28.1) → rs (rt_P sc fm) 446 F Lo 255 lv [] (hq false x46 y w) Q)) ?_ ?_ _ _ (wp_bind h) _ l0 l1 l2 l3
          · intro s35 h lv l0 l1 l2 l3
            refine rs_ildn wi_446_201 l3 ?_
            refine rs_aldn wi_446_202 l0 ?_
            refine dq_gr wi_446_203 wf_446_173 tf_174_45 ?_
            refine rs_ildn wi_446_206 l2 ?_
            obtain ⟨g36, h⟩ := wp_gd h
            refine dq_iald wi_446_207 t_207 g36 ?_
            refine rs_icge (tg := 255) wi_446_208 ⟨by decide, by decide⟩ (fun q => ?_) (fun q => ?_)
            ·
              have h := wp_pos h q
              exact h _ l0 l1 l2
            ·
              have h := wp_neg h q
              refine rs_ildn wi_446_211 l3 ?_
              refine wp_jn (B := fun p37 : cS => ∀ lv, rx_ld lv 0 = some (.ref 174) → rx_ld lv 1 = some (.int a1) → rx_ld lv 2 = some (.int s28.1) → rx_ld lv 3 = some (.int s35.1) → rs (rt_P sc fm) 446 F Lo 222 lv [] (hq false p37 y w) Q) h (fun p37 h lv l0 l1 l2 l3 => ?_) (fun j222 hj222 h => ?_)
              ·
                refine rs_aldn wi_446_222 l0 ?_
                refine rs_aldn wi_446_223 l0 ?_
                refine dq_gr wi_446_224 wf_446_179 tf_174_47 ?_
                refine rs_pure wi_446_227 rfl ?_
                refine rs_topi (v := 8) (by decide) ?_
                refine rs_ildn wi_446_229 l2 ?_
                refine rs_pure wi_446_230 rfl ?_
                refine rs_ildn wi_446_231 l3 ?_
                refine rs_pure wi_446_232 rfl ?_
                obtain ⟨g38, h⟩ := wp_gd h
                refine dq_lald wi_446_233 t_209 g38 ?_
                refine rs_V wi_446_234 wc_446_765 rfl (dq_isa tf_174_0 wa_15_363) (Nat.le_trans (by decide) hF) (ml_le wm_363 (Nat.le_trans (by decide) hLo)) rfl (sp_363 hw (Nat.le_trans (by decide : 2 ≤ 8 - 1) (Nat.sub_le_sub_right hF 1)) (ml_sub wm_363 (Nat.le_trans (by decide : 44 ≤ 176 - 22) (Nat.sub_le_sub_right hLo 22))) (wp_bind h) (fun r39 h => rs_back0 ?_))
                refine rs_aldn wi_446_237 l0 ?_
                refine rs_ildn wi_446_238 l2 ?_
                refine rs_S wi_446_239 wc_446_661 (Or.inl rfl) rfl (Nat.le_trans (by decide) hF) (ml_le wm_422 (Nat.le_trans (by decide) hLo)) rfl (sp_422 (Nat.le_trans (by decide : 0 ≤ 8 - 1) (Nat.sub_le_sub_right hF 1)) (ml_sub wm_422 (Nat.le_trans (by decide : 0 ≤ 176 - 20) (Nat.sub_le_sub_right hLo 20))) (wp_bind h) (fun v40 h => rs_back1 ?_))
                refine rs_pure wi_446_242 rfl ?_
                refine rs_topi (v := 1) (by decide) ?_
                refine rs_pure wi_446_243 rfl ?_
                refine rs_ildn wi_446_244 l3 ?_
                refine rs_pure wi_446_245 rfl ?_
                refine rs_V wi_446_246 wc_446_803 rfl (dq_isa tf_174_0 wa_15_442) (Nat.le_trans (by decide) hF) (ml_le wm_442 (Nat.le_trans (by decide) hLo)) rfl (sp_442 hw (Nat.le_trans (by decide : 7 ≤ 8 - 1) (Nat.sub_le_sub_right hF 1)) (ml_sub wm_442 (Nat.le_trans (by decide : 154 ≤ 176 - 22) (Nat.sub_le_sub_right hLo 22))) (wp_bind h) (fun r41 h => rs_back0 ?_))
                obtain ⟨v43, e44, h⟩ := wp_lt h
                refine dl_inc wi_446_249 l3 rfl e44 (fun lv l3 t42 => ?_)
                have l0 := t42 _ _ (by decide) (Or.inl rfl) l0
                have l1 := t42 _ _ (by decide) (Or.inl rfl) l1
                have l2 := t42 _ _ (by decide) (Or.inl rfl) l2
                refine rs_goto (tg := 201) wi_446_252 ⟨by decide, by decide⟩ ?_
                exact h _ l0 l1 l2 l3
              refine rs_ifle (tg := 222) wi_446_212 ⟨by decide, by decide⟩ (fun q => ?_) (fun q => ?_)
              ·
                have h := wp_pos h q
                exact hj222 _ h _ l0 l1 l2 l3
              ·
                have h := wp_neg h q
                refine rs_aldn wi_446_215 l0 ?_
                refine rs_ldcwS wi_446_216 wk_446_774 ?_
                refine rs_V wi_446_219 wc_446_402 rfl (dq_isa tf_174_0 wa_15_362) (Nat.le_trans (by decide) hF) (ml_le wm_362 (Nat.le_trans (by decide) hLo)) rfl (sp_362 hw (Nat.le_trans (by decide : 4 ≤ 8 - 1) (Nat.sub_le_sub_right hF 1)) (ml_sub wm_362 (Nat.le_trans (by decide : 85 ≤ 176 - 22) (Nat.sub_le_sub_right hLo 22))) (by decide +kernel) (wp_bind h) (fun r45 h => rs_back0 ?_))
                exact hj222 _ h _ l0 l1 l2 l3
          ·
            intro x46 h lv l0 l1 l2
            refine rs_aldn wi_446_255 l0 ?_
            refine rs_ldcwS wi_446_256 wk_446_786 ?_
            refine rs_V wi_446_259 wc_446_402 rfl (dq_isa tf_174_0 wa_15_362) (Nat.le_trans (by decide) hF) (ml_le wm_362 (Nat.le_trans (by decide) hLo)) rfl (sp_362 hw (Nat.le_trans (by decide : 4 ≤ 8 - 1) (Nat.sub_le_sub_right hF 1)) (ml_sub wm_362 (Nat.le_trans (by decide : 85 ≤ 176 - 22) (Nat.sub_le_sub_right hLo 22))) (by decide +kernel) (wp_bind h) (fun r47 h => rs_back0 ?_))
            refine rs_aldn wi_446_262 l0 ?_
            refine rs_ildn wi_446_263 l2 ?_
            refine rs_S wi_446_264 wc_446_661 (Or.inl rfl) rfl (Nat.le_trans (by decide) hF) (ml_le wm_422 (Nat.le_trans (by decide) hLo)) rfl (sp_422 (Nat.le_trans (by decide : 0 ≤ 8 - 1) (Nat.sub_le_sub_right hF 1)) (ml_sub wm_422 (Nat.le_trans (by decide : 0 ≤ 176 - 20) (Nat.sub_le_sub_right hLo 20))) (wp_bind h) (fun v48 h => rs_back1 ?_))
            refine rs_V wi_446_267 wc_446_803 rfl (dq_isa tf_174_0 wa_15_442) (Nat.le_trans (by decide) hF) (ml_le wm_442 (Nat.le_trans (by decide) hLo)) rfl (sp_442 hw (Nat.le_trans (by decide : 7 ≤ 8 - 1) (Nat.sub_le_sub_right hF 1)) (ml_sub wm_442 (Nat.le_trans (by decide : 154 ≤ 176 - 22) (Nat.sub_le_sub_right hLo 22))) (wp_bind h) (fun r49 h => rs_back0 ?_))
            refine rs_aldn wi_446_270 l0 ?_
            refine rs_ldcwS wi_446_271 wk_446_806 ?_
            refine rs_V wi_446_274 wc_446_402 rfl (dq_isa tf_174_0 wa_15_362) (Nat.le_trans (by decide) hF) (ml_le wm_362 (Nat.le_trans (by decide) hLo)) rfl (sp_362 hw (Nat.le_trans (by decide : 4 ≤ 8 - 1) (Nat.sub_le_sub_right hF 1)) (ml_sub wm_362 (Nat.le_trans (by decide : 85 ≤ 176 - 22) (Nat.sub_le_sub_right hLo 22))) (by decide +kernel) (wp_bind h) (fun r50 h => rs_back0 ?_))
            refine rs_pure wi_446_277 rfl ?_
            refine rs_topi (v := 0) (by decide) ?_
            refine dl_istn wi_446_278 rfl (fun lv l3 t51 => ?_)
            have l0 := t51 _ _ (by decide) (Or.inl rfl) l0
            have l1 := t51 _ _ (by decide) (Or.inl rfl) l1
            have l2 := t51 _ _ (by decide) (Or.inl rfl) l2
            refine whl_ex (A := fun s52 : Int32 × cS => ∀ lv, rx_ld lv 0 = some (.ref 174) → rx_ld lv 1 = some (.int a1) → rx_ld lv 2 = some (.int s28.1) → rx_ld lv 3 = some (.int s52.1) → rs (rt_P sc fm) 446 F Lo 279 lv [] (hq false s52.2 y w) Q) (B := (fun x67 : cS => ∀ lv, rx_ld lv 0 = some (.ref 174) → rx_ld lv 1 = some (.int a1) → rx_ld lv 2 = some (.int s28.1) → rs (rt_P sc fm) 446 F Lo 349 lv [] (hq false x67 y w) Q)) ?_ ?_ _ _ (wp_bind h) _ l0 l1 l2 l3
            · intro s52 h lv l0 l1 l2 l3
              refine rs_ildn wi_446_279 l3 ?_
              refine rs_aldn wi_446_280 l0 ?_
              refine dq_gr wi_446_281 wf_446_182 tf_174_48 ?_
              refine rs_ildn wi_446_284 l2 ?_
              obtain ⟨g53, h⟩ := wp_gd h
              refine dq_iald wi_446_285 t_210 g53 ?_
              refine rs_icge (tg := 349) wi_446_286 ⟨by decide, by decide⟩ (fun q => ?_) (fun q => ?_)
              ·
                have h := wp_pos h q
                exact h _ l0 l1 l2
              ·
                have h := wp_neg h q
                refine rs_pure wi_446_289 rfl ?_
                refine rs_topi (v := 40) (by decide) ?_
                refine rs_ildn wi_446_291 l2 ?_
                refine rs_pure wi_446_292 rfl ?_
                refine rs_ildn wi_446_293 l3 ?_
                refine rs_pure wi_446_294 rfl ?_
                obtain ⟨v55, e56, h⟩ := wp_lt h
                refine rs_topi e56 ?_
                refine dl_ist wi_446_295 rfl (fun lv l4 t54 => ?_)
                have l0 := t54 _ _ (by decide) (Or.inl rfl) l0
                have l1 := t54 _ _ (by decide) (Or.inl rfl) l1
                have l2 := t54 _ _ (by decide) (Or.inl rfl) l2
                have l3 := t54 _ _ (by decide) (Or.inl rfl) l3
                refine rs_aldn wi_446_297 l0 ?_
                refine dq_gr wi_446_298 wf_446_188 tf_174_50 ?_
                refine rs_ild wi_446_301 l4 ?_
                obtain ⟨g57, h⟩ := wp_gd h
                refine dq_lald wi_446_303 t_212 g57 ?_
                refine rs_pure wi_446_304 rfl ?_
                refine rs_topl (v := 0) (by decide) ?_
                refine rs_pure wi_446_305 rfl ?_
                refine wp_jn (B := fun p58 : cS => ∀ lv, rx_ld lv 0 = some (.ref 174) → rx_ld lv 1 = some (.int a1) → rx_ld lv 2 = some (.int s28.1) → rx_ld lv 3 = some (.int s52.1) → rx_ld lv 4 = some (.int v55) → rs (rt_P sc fm) 446 F Lo 327 lv [] (hq false p58 y w) Q) h (fun p58 h lv l0 l1 l2 l3 l4 => ?_) (fun j327 hj327 h => ?_)
                ·
                  refine rs_aldn wi_446_327 l0 ?_
                  refine rs_ildn wi_446_328 l2 ?_
                  refine rs_ild wi_446_329 l4 ?_
                  refine rs_pure wi_446_331 rfl ?_
                  refine rs_topi (v := 0) (by decide) ?_
                  refine rs_pure wi_446_332 rfl ?_
                  refine rs_topi (v := 0) (by decide) ?_
                  refine rs_V wi_446_333 wc_446_808 rfl (dq_isa tf_174_0 wa_15_447) (Nat.le_trans (by decide) hF) (ml_le wm_447 (Nat.le_trans (by decide) hLo)) rfl (sp_447 hw (Nat.le_trans (by decide : 6 ≤ 8 - 1) (Nat.sub_le_sub_right hF 1)) (ml_sub wm_447 (Nat.le_trans (by decide : 129 ≤ 176 - 25) (Nat.sub_le_sub_right hLo 25))) (wp_bind h) (fun r59 h => rs_back0 ?_))
                  refine rs_aldn wi_446_336 l0 ?_
                  refine rs_ldcwS wi_446_337 wk_446_801 ?_
                  refine rs_V wi_446_340 wc_446_402 rfl (dq_isa tf_174_0 wa_15_362) (Nat.le_trans (by decide) hF) (ml_le wm_362 (Nat.le_trans (by decide) hLo)) rfl (sp_362 hw (Nat.le_trans (by decide : 4 ≤ 8 - 1) (Nat.sub_le_sub_right hF 1)) (ml_sub wm_362 (Nat.le_trans (by decide : 85 ≤ 176 - 22) (Nat.sub_le_sub_right hLo 22))) (by decide +kernel) (wp_bind h) (fun r60 h => rs_back0 ?_))
                  obtain ⟨v62, e63, h⟩ := wp_lt h
                  refine dl_inc wi_446_343 l3 rfl e63 (fun lv l3 t61 => ?_)
                  have l0 := t61 _ _ (by decide) (Or.inl rfl) l0
                  have l1 := t61 _ _ (by decide) (Or.inl rfl) l1
                  have l2 := t61 _ _ (by decide) (Or.inl rfl) l2
                  refine rs_goto (tg := 279) wi_446_346 ⟨by decide, by decide⟩ ?_
                  exact h _ l0 l1 l2 l3
                refine rs_ifeq (tg := 327) wi_446_306 ⟨by decide, by decide⟩ (fun q => ?_) (fun q => ?_)
                ·
                  have h := wp_pos h q
                  exact hj327 _ h _ l0 l1 l2 l3 l4
                ·
                  have h := wp_neg h q
                  refine rs_aldn wi_446_309 l0 ?_
                  refine rs_aldn wi_446_310 l0 ?_
                  refine dq_gr wi_446_311 wf_446_188 tf_174_50 ?_
                  refine rs_ild wi_446_314 l4 ?_
                  obtain ⟨g64, h⟩ := wp_gd h
                  refine dq_lald wi_446_316 t_212 g64 ?_
                  refine rs_V wi_446_317 wc_446_765 rfl (dq_isa tf_174_0 wa_15_363) (Nat.le_trans (by decide) hF) (ml_le wm_363 (Nat.le_trans (by decide) hLo)) rfl (sp_363 hw (Nat.le_trans (by decide : 2 ≤ 8 - 1) (Nat.sub_le_sub_right hF 1)) (ml_sub wm_363 (Nat.le_trans (by decide : 44 ≤ 176 - 22) (Nat.sub_le_sub_right hLo 22))) (wp_bind h) (fun r65 h => rs_back0 ?_))
                  refine rs_aldn wi_446_320 l0 ?_
                  refine rs_ldcwS wi_446_321 wk_446_794 ?_
                  refine rs_V wi_446_324 wc_446_402 rfl (dq_isa tf_174_0 wa_15_362) (Nat.le_trans (by decide) hF) (ml_le wm_362 (Nat.le_trans (by decide) hLo)) rfl (sp_362 hw (Nat.le_trans (by decide : 4 ≤ 8 - 1) (Nat.sub_le_sub_right hF 1)) (ml_sub wm_362 (Nat.le_trans (by decide : 85 ≤ 176 - 22) (Nat.sub_le_sub_right hLo 22))) (by decide +kernel) (wp_bind h) (fun r66 h => rs_back0 ?_))
                  exact hj327 _ h _ l0 l1 l2 l3 l4
            ·
              intro x67 h lv l0 l1 l2
              refine rs_aldn wi_446_349 l0 ?_
              refine rs_ldcwS wi_446_350 wk_446_811 ?_
              refine rs_V wi_446_353 wc_446_402 rfl (dq_isa tf_174_0 wa_15_362) (Nat.le_trans (by decide) hF) (ml_le wm_362 (Nat.le_trans (by decide) hLo)) rfl (sp_362 hw (Nat.le_trans (by decide : 4 ≤ 8 - 1) (Nat.sub_le_sub_right hF 1)) (ml_sub wm_362 (Nat.le_trans (by decide : 85 ≤ 176 - 22) (Nat.sub_le_sub_right hLo 22))) (by decide +kernel) (wp_bind h) (fun r68 h => rs_back0 ?_))
              obtain ⟨v70, e71, h⟩ := wp_lt h
              refine dl_inc wi_446_356 l2 rfl e71 (fun lv l2 t69 => ?_)
              have l0 := t69 _ _ (by decide) (Or.inl rfl) l0
              have l1 := t69 _ _ (by decide) (Or.inl rfl) l1
              refine rs_goto (tg := 161) wi_446_359 ⟨by decide, by decide⟩ ?_
              exact h _ l0 l1 l2
      ·
        intro x72 h lv l0
        refine rs_aldn wi_446_362 l0 ?_
        refine rs_ldcwS wi_446_363 wk_446_811 ?_
        refine rs_V wi_446_366 wc_446_402 rfl (dq_isa tf_174_0 wa_15_362) (Nat.le_trans (by decide) hF) (ml_le wm_362 (Nat.le_trans (by decide) hLo)) rfl (sp_362 hw (Nat.le_trans (by decide : 4 ≤ 8 - 1) (Nat.sub_le_sub_right hF 1)) (ml_sub wm_362 (Nat.le_trans (by decide : 85 ≤ 176 - 22) (Nat.sub_le_sub_right hLo 22))) (by decide +kernel) (wp_bind h) (fun r73 h => rs_back0 ?_))
        exact rs_vret wi_446_369 wr_446 (hQ r73 h)
  refine rs_iflt (tg := 47) wi_446_22 ⟨by decide, by decide⟩ (fun q => ?_) (fun q => ?_)
  ·
    have h := wp_pos h q
    exact hj47 _ h _ l0 l1
  ·
    have h := wp_neg h q
    refine rs_aldn wi_446_25 l0 ?_
    refine rs_ldcwS wi_446_26 wk_446_794 ?_
    refine rs_V wi_446_29 wc_446_402 rfl (dq_isa tf_174_0 wa_15_362) (Nat.le_trans (by decide) hF) (ml_le wm_362 (Nat.le_trans (by decide) hLo)) rfl (sp_362 hw (Nat.le_trans (by decide : 4 ≤ 8 - 1) (Nat.sub_le_sub_right hF 1)) (ml_sub wm_362 (Nat.le_trans (by decide : 85 ≤ 176 - 22) (Nat.sub_le_sub_right hLo 22))) (by decide +kernel) (wp_bind h) (fun r74 h => rs_back0 ?_))
    refine rs_aldn wi_446_32 l0 ?_
    refine rs_aldn wi_446_33 l0 ?_
    refine dq_gr wi_446_34 wf_446_152 tf_174_38 ?_
    refine rs_aldn wi_446_37 l0 ?_
    refine dq_gr wi_446_38 wf_446_155 tf_174_39 ?_
    refine rs_ildn wi_446_41 l1 ?_
    obtain ⟨g75, h⟩ := wp_gd h
    refine dq_iald wi_446_42 t_201 g75 ?_
    obtain ⟨g76, h⟩ := wp_gd h
    refine dq_lald wi_446_43 t_200 g76 ?_
    refine rs_V wi_446_44 wc_446_765 rfl (dq_isa tf_174_0 wa_15_363) (Nat.le_trans (by decide) hF) (ml_le wm_363 (Nat.le_trans (by decide) hLo)) rfl (sp_363 hw (Nat.le_trans (by decide : 2 ≤ 8 - 1) (Nat.sub_le_sub_right hF 1)) (ml_sub wm_363 (Nat.le_trans (by decide : 44 ≤ 176 - 22) (Nat.sub_le_sub_right hLo 22))) (wp_bind h) (fun r77 h => rs_back0 ?_))
    exact hj47 _ h _ l0 l1
theorem wa_15_444 : rz_cn 15 (rx_yn (rt_P sc fm) 444).cls = true := (by decide +kernel : rz_cn 15 (rt_yn 444).cls = true)
theorem wa_15_445 : rz_cn 15 (rx_yn (rt_P sc fm) 445).cls = true := (by decide +kernel : rz_cn 15 (rt_yn 445).cls = true)
theorem wa_15_446 : rz_cn 15 (rx_yn (rt_P sc fm) 446).cls = true := (by decide +kernel : rz_cn 15 (rt_yn 446).cls = true)
theorem wc_123_402 : rx_ct (rt_P sc fm) 123 402 = some (0, 362, 1) := (by decide +kernel : rt_ct 123 402 = some (0, 362, 1))
theorem wc_123_765 : rx_ct (rt_P sc fm) 123 765 = some (0, 363, 1) := (by decide +kernel : rt_ct 123 765 = some (0, 363, 1))
theorem wc_123_803 : rx_ct (rt_P sc fm) 123 803 = some (0, 442, 1) := (by decide +kernel : rt_ct 123 803 = some (0, 442, 1))
theorem wc_123_820 : rx_ct (rt_P sc fm) 123 820 = some (0, 444, 1) := (by decide +kernel : rt_ct 123 820 = some (0, 444, 1))
theorem wc_123_823 : rx_ct (rt_P sc fm) 123 823 = some (0, 445, 1) := (by decide +kernel : rt_ct 123 823 = some (0, 445, 1))
theorem wc_123_826 : rx_ct (rt_P sc fm) 123 826 = some (0, 446, 1) := (by decide +kernel : rt_ct 123 826 = some (0, 446, 1))
theorem wf_123_119 : rx_ft (rt_P sc fm) 123 119 = some (15, 25) := (by decide +kernel : rt_ft 123 119 = some (15, 25))
theorem wf_123_146 : rx_ft (rt_P sc fm) 123 146 = some (15, 35) := (by decide +kernel : rt_ft 123 146 = some (15, 35))
theorem wf_123_149 : rx_ft (rt_P sc fm) 123 149 = some (15, 36) := (by decide +kernel : rt_ft 123 149 = some (15, 36))
theorem wf_123_366 : rx_ft (rt_P sc fm) 123 366 = some (15, 4) := (by decide +kernel : rt_ft 123 366 = some (15, 4))
theorem wf_123_447 : rx_ft (rt_P sc fm) 123 447 = some (15, 15) := (by decide +kernel : rt_ft 123 447 = some (15, 15))
theorem wf_123_450 : rx_ft (rt_P sc fm) 123 450 = some (15, 24) := (by decide +kernel : rt_ft 123 450 = some (15, 24))
theorem wf_123_453 : rx_ft (rt_P sc fm) 123 453 = some (15, 34) := (by decide +kernel : rt_ft 123 453 = some (15, 34))
theorem wf_123_456 : rx_ft (rt_P sc fm) 123 456 = some (15, 37) := (by decide +kernel : rt_ft 123 456 = some (15, 37))
theorem wf_123_634 : rx_ft (rt_P sc fm) 123 634 = some (15, 14) := (by decide +kernel : rt_ft 123 634 = some (15, 14))
theorem wi_123_0 : ri (rt_P sc fm) 123 0 (.aload_n 0) (1) := ri_of (by decide +kernel) rfl
theorem wi_123_1 : ri (rt_P sc fm) 123 1 (.iconst 0) (2) := ri_of (by decide +kernel) rfl
theorem wi_123_100 : ri (rt_P sc fm) 123 100 (.aload_n 0) (101) := ri_of (by decide +kernel) rfl
theorem wi_123_101 : ri (rt_P sc fm) 123 101 (.getfield 119) (104) := ri_of (by decide +kernel) rfl
theorem wi_123_104 : ri (rt_P sc fm) 123 104 (.aload_n 0) (105) := ri_of (by decide +kernel) rfl
theorem wi_123_105 : ri (rt_P sc fm) 123 105 (.getfield 149) (108) := ri_of (by decide +kernel) rfl
theorem wi_123_108 : ri (rt_P sc fm) 123 108 (.iload_n 1) (109) := ri_of (by decide +kernel) rfl
theorem wi_123_109 : ri (rt_P sc fm) 123 109 (.iaload) (110) := ri_of (by decide +kernel) rfl
theorem wi_123_110 : ri (rt_P sc fm) 123 110 (.laload) (111) := ri_of (by decide +kernel) rfl
theorem wi_123_111 : ri (rt_P sc fm) 123 111 (.invokevirtual 765) (114) := ri_of (by decide +kernel) rfl
theorem wi_123_114 : ri (rt_P sc fm) 123 114 (.aload_n 0) (115) := ri_of (by decide +kernel) rfl
theorem wi_123_115 : ri (rt_P sc fm) 123 115 (.ldc 32) (117) := ri_of (by decide +kernel) rfl
theorem wi_123_117 : ri (rt_P sc fm) 123 117 (.invokevirtual 402) (120) := ri_of (by decide +kernel) rfl
theorem wi_123_12 : ri (rt_P sc fm) 123 12 (.iconst (-1)) (13) := ri_of (by decide +kernel) rfl
theorem wi_123_120 : ri (rt_P sc fm) 123 120 (.aload_n 0) (121) := ri_of (by decide +kernel) rfl
theorem wi_123_121 : ri (rt_P sc fm) 123 121 (.sipush 1212) (124) := ri_of (by decide +kernel) rfl
theorem wi_123_124 : ri (rt_P sc fm) 123 124 (.iload_n 1) (125) := ri_of (by decide +kernel) rfl
theorem wi_123_125 : ri (rt_P sc fm) 123 125 (.iadd) (126) := ri_of (by decide +kernel) rfl
theorem wi_123_126 : ri (rt_P sc fm) 123 126 (.invokevirtual 803) (129) := ri_of (by decide +kernel) rfl
theorem wi_123_129 : ri (rt_P sc fm) 123 129 (.aload_n 0) (130) := ri_of (by decide +kernel) rfl
theorem wi_123_13 : ri (rt_P sc fm) 123 13 (.ireturn) (14) := ri_of (by decide +kernel) rfl
theorem wi_123_130 : ri (rt_P sc fm) 123 130 (.ldc_w 801) (133) := ri_of (by decide +kernel) rfl
theorem wi_123_133 : ri (rt_P sc fm) 123 133 (.invokevirtual 402) (136) := ri_of (by decide +kernel) rfl
theorem wi_123_136 : ri (rt_P sc fm) 123 136 (.iinc 1 1) (139) := ri_of (by decide +kernel) rfl
theorem wi_123_139 : ri (rt_P sc fm) 123 139 (.goto (-71)) (142) := ri_of (by decide +kernel) rfl
theorem wi_123_14 : ri (rt_P sc fm) 123 14 (.aload_n 0) (15) := ri_of (by decide +kernel) rfl
theorem wi_123_142 : ri (rt_P sc fm) 123 142 (.iconst 0) (143) := ri_of (by decide +kernel) rfl
theorem wi_123_143 : ri (rt_P sc fm) 123 143 (.istore_n 1) (144) := ri_of (by decide +kernel) rfl
theorem wi_123_144 : ri (rt_P sc fm) 123 144 (.iload_n 1) (145) := ri_of (by decide +kernel) rfl
theorem wi_123_145 : ri (rt_P sc fm) 123 145 (.aload_n 0) (146) := ri_of (by decide +kernel) rfl
theorem wi_123_146 : ri (rt_P sc fm) 123 146 (.getfield 456) (149) := ri_of (by decide +kernel) rfl
theorem wi_123_149 : ri (rt_P sc fm) 123 149 (.if_icmp .ge 14) (152) := ri_of (by decide +kernel) rfl
theorem wi_123_15 : ri (rt_P sc fm) 123 15 (.iconst 0) (16) := ri_of (by decide +kernel) rfl
theorem wi_123_152 : ri (rt_P sc fm) 123 152 (.aload_n 0) (153) := ri_of (by decide +kernel) rfl
theorem wi_123_153 : ri (rt_P sc fm) 123 153 (.iload_n 1) (154) := ri_of (by decide +kernel) rfl
theorem wi_123_154 : ri (rt_P sc fm) 123 154 (.invokevirtual 826) (157) := ri_of (by decide +kernel) rfl
theorem wi_123_157 : ri (rt_P sc fm) 123 157 (.iinc 1 1) (160) := ri_of (by decide +kernel) rfl
theorem wi_123_16 : ri (rt_P sc fm) 123 16 (.putfield 366) (19) := ri_of (by decide +kernel) rfl
theorem wi_123_160 : ri (rt_P sc fm) 123 160 (.goto (-16)) (163) := ri_of (by decide +kernel) rfl
theorem wi_123_163 : ri (rt_P sc fm) 123 163 (.aload_n 0) (164) := ri_of (by decide +kernel) rfl
theorem wi_123_164 : ri (rt_P sc fm) 123 164 (.getfield 366) (167) := ri_of (by decide +kernel) rfl
theorem wi_123_167 : ri (rt_P sc fm) 123 167 (.ireturn) (168) := ri_of (by decide +kernel) rfl
theorem wi_123_19 : ri (rt_P sc fm) 123 19 (.aload_n 0) (20) := ri_of (by decide +kernel) rfl
theorem wi_123_2 : ri (rt_P sc fm) 123 2 (.putfield 356) (5) := ri_of (by decide +kernel) rfl
theorem wi_123_20 : ri (rt_P sc fm) 123 20 (.iconst 0) (21) := ri_of (by decide +kernel) rfl
theorem wi_123_21 : ri (rt_P sc fm) 123 21 (.putfield 378) (24) := ri_of (by decide +kernel) rfl
theorem wi_123_24 : ri (rt_P sc fm) 123 24 (.iconst 0) (25) := ri_of (by decide +kernel) rfl
theorem wi_123_25 : ri (rt_P sc fm) 123 25 (.istore_n 1) (26) := ri_of (by decide +kernel) rfl
theorem wi_123_26 : ri (rt_P sc fm) 123 26 (.iload_n 1) (27) := ri_of (by decide +kernel) rfl
theorem wi_123_27 : ri (rt_P sc fm) 123 27 (.aload_n 0) (28) := ri_of (by decide +kernel) rfl
theorem wi_123_28 : ri (rt_P sc fm) 123 28 (.getfield 447) (31) := ri_of (by decide +kernel) rfl
theorem wi_123_31 : ri (rt_P sc fm) 123 31 (.if_icmp .ge 14) (34) := ri_of (by decide +kernel) rfl
theorem wi_123_34 : ri (rt_P sc fm) 123 34 (.aload_n 0) (35) := ri_of (by decide +kernel) rfl
theorem wi_123_35 : ri (rt_P sc fm) 123 35 (.iload_n 1) (36) := ri_of (by decide +kernel) rfl
theorem wi_123_36 : ri (rt_P sc fm) 123 36 (.invokevirtual 820) (39) := ri_of (by decide +kernel) rfl
theorem wi_123_39 : ri (rt_P sc fm) 123 39 (.iinc 1 1) (42) := ri_of (by decide +kernel) rfl
theorem wi_123_42 : ri (rt_P sc fm) 123 42 (.goto (-16)) (45) := ri_of (by decide +kernel) rfl
theorem wi_123_45 : ri (rt_P sc fm) 123 45 (.iconst 0) (46) := ri_of (by decide +kernel) rfl
theorem wi_123_46 : ri (rt_P sc fm) 123 46 (.istore_n 1) (47) := ri_of (by decide +kernel) rfl
theorem wi_123_47 : ri (rt_P sc fm) 123 47 (.iload_n 1) (48) := ri_of (by decide +kernel) rfl
theorem wi_123_48 : ri (rt_P sc fm) 123 48 (.aload_n 0) (49) := ri_of (by decide +kernel) rfl
theorem wi_123_49 : ri (rt_P sc fm) 123 49 (.getfield 450) (52) := ri_of (by decide +kernel) rfl
theorem wi_123_5 : ri (rt_P sc fm) 123 5 (.aload_n 0) (6) := ri_of (by decide +kernel) rfl
theorem wi_123_52 : ri (rt_P sc fm) 123 52 (.if_icmp .ge 14) (55) := ri_of (by decide +kernel) rfl
theorem wi_123_55 : ri (rt_P sc fm) 123 55 (.aload_n 0) (56) := ri_of (by decide +kernel) rfl
theorem wi_123_56 : ri (rt_P sc fm) 123 56 (.iload_n 1) (57) := ri_of (by decide +kernel) rfl
theorem wi_123_57 : ri (rt_P sc fm) 123 57 (.invokevirtual 823) (60) := ri_of (by decide +kernel) rfl
theorem wi_123_6 : ri (rt_P sc fm) 123 6 (.getfield 634) (9) := ri_of (by decide +kernel) rfl
theorem wi_123_60 : ri (rt_P sc fm) 123 60 (.iinc 1 1) (63) := ri_of (by decide +kernel) rfl
theorem wi_123_63 : ri (rt_P sc fm) 123 63 (.goto (-16)) (66) := ri_of (by decide +kernel) rfl
theorem wi_123_66 : ri (rt_P sc fm) 123 66 (.iconst 0) (67) := ri_of (by decide +kernel) rfl
theorem wi_123_67 : ri (rt_P sc fm) 123 67 (.istore_n 1) (68) := ri_of (by decide +kernel) rfl
theorem wi_123_68 : ri (rt_P sc fm) 123 68 (.iload_n 1) (69) := ri_of (by decide +kernel) rfl
theorem wi_123_69 : ri (rt_P sc fm) 123 69 (.aload_n 0) (70) := ri_of (by decide +kernel) rfl
theorem wi_123_70 : ri (rt_P sc fm) 123 70 (.getfield 453) (73) := ri_of (by decide +kernel) rfl
theorem wi_123_73 : ri (rt_P sc fm) 123 73 (.if_icmp .ge 69) (76) := ri_of (by decide +kernel) rfl
theorem wi_123_76 : ri (rt_P sc fm) 123 76 (.aload_n 0) (77) := ri_of (by decide +kernel) rfl
theorem wi_123_77 : ri (rt_P sc fm) 123 77 (.ldc 30) (79) := ri_of (by decide +kernel) rfl
theorem wi_123_79 : ri (rt_P sc fm) 123 79 (.invokevirtual 402) (82) := ri_of (by decide +kernel) rfl
theorem wi_123_82 : ri (rt_P sc fm) 123 82 (.aload_n 0) (83) := ri_of (by decide +kernel) rfl
theorem wi_123_83 : ri (rt_P sc fm) 123 83 (.aload_n 0) (84) := ri_of (by decide +kernel) rfl
theorem wi_123_84 : ri (rt_P sc fm) 123 84 (.getfield 146) (87) := ri_of (by decide +kernel) rfl
theorem wi_123_87 : ri (rt_P sc fm) 123 87 (.iload_n 1) (88) := ri_of (by decide +kernel) rfl
theorem wi_123_88 : ri (rt_P sc fm) 123 88 (.laload) (89) := ri_of (by decide +kernel) rfl
theorem wi_123_89 : ri (rt_P sc fm) 123 89 (.invokevirtual 765) (92) := ri_of (by decide +kernel) rfl
theorem wi_123_9 : ri (rt_P sc fm) 123 9 (.ifCond .ne 5) (12) := ri_of (by decide +kernel) rfl
theorem wi_123_92 : ri (rt_P sc fm) 123 92 (.aload_n 0) (93) := ri_of (by decide +kernel) rfl
theorem wi_123_93 : ri (rt_P sc fm) 123 93 (.ldc_w 794) (96) := ri_of (by decide +kernel) rfl
theorem wi_123_96 : ri (rt_P sc fm) 123 96 (.invokevirtual 402) (99) := ri_of (by decide +kernel) rfl
theorem wi_123_99 : ri (rt_P sc fm) 123 99 (.aload_n 0) (100) := ri_of (by decide +kernel) rfl
theorem wk_123_30 : rx_kt (rt_P sc fm) 123 30 = some (.ref (rx_K 8)) := (by decide +kernel : rt_kt 123 30 = some (.ref (rx_K 8)))
theorem wk_123_32 : rx_kt (rt_P sc fm) 123 32 = some (.ref (rx_K 9)) := (by decide +kernel : rt_kt 123 32 = some (.ref (rx_K 9)))
theorem wk_123_794 : rx_kt (rt_P sc fm) 123 794 = some (.ref (rx_K 33)) := (by decide +kernel : rt_kt 123 794 = some (.ref (rx_K 33)))
theorem wk_123_801 : rx_kt (rt_P sc fm) 123 801 = some (.ref (rx_K 34)) := (by decide +kernel : rt_kt 123 801 = some (.ref (rx_K 34)))
theorem wm_444 : rx_ml (rt_P sc fm) 444 = 4 := (by decide +kernel : rt_ml 444 = 4)
theorem wm_445 : rx_ml (rt_P sc fm) 445 = 4 := (by decide +kernel : rt_ml 445 = 4)
theorem wm_446 : rx_ml (rt_P sc fm) 446 = 5 := (by decide +kernel : rt_ml 446 = 5)
theorem wp_123_356 : rx_pt (rt_P sc fm) 123 356 = some (15, 0, .int) := (by decide +kernel : rt_pt 123 356 = some (15, 0, .int))
theorem wp_123_366 : rx_pt (rt_P sc fm) 123 366 = some (15, 4, .int) := (by decide +kernel : rt_pt 123 366 = some (15, 4, .int))
theorem wp_123_378 : rx_pt (rt_P sc fm) 123 378 = some (15, 5, .boolean) := (by decide +kernel : rt_pt 123 378 = some (15, 5, .boolean))
theorem wr_123 : rx_rt (rt_P sc fm) 123 = (some FieldType.int) := (by decide +kernel : rt_rt 123 = (some FieldType.int))
/-- MarkHouseModel.tell()I -/
def d_123 (n : Nat)  (c : cS) : Option (Int32 × cS) :=
  lt (pI c 174 0 0) (fun c1 =>
  if (c1.1 174 14) = 0 then
    some ((-1), c1)
  else
    lt (pI c1 174 4 0) (fun c3 =>
    lt (pI c3 174 5 0) (fun c5 =>
    Option.bind (whl (R := (cS)) (fun s8 : Int32 × cS =>
      if (s8.2.1 174 15) ≤ s8.1 then
        some (.inr s8.2)
      else
        Option.bind (d_444 n s8.1 s8.2) (fun r9 =>
        lt (s8.1 + 1 : Int32) (fun v11 =>
        some (.inl (v11, r9))))) n (0, c5))
    (fun x13 : cS =>
      Option.bind (whl (R := (cS)) (fun s15 : Int32 × cS =>
        if (s15.2.1 174 24) ≤ s15.1 then
          some (.inr s15.2)
        else
          Option.bind (d_445 n s15.1 s15.2) (fun r16 =>
          lt (s15.1 + 1 : Int32) (fun v18 =>
          some (.inl (v18, r16))))) n (0, x13))
      (fun x20 : cS =>
        Option.bind (whl (R := (cS)) (fun s22 : Int32 × cS =>
          if (s22.2.1 174 34) ≤ s22.1 then
            some (.inr s22.2)
          else
            Option.bind (d_362 n 8 s22.2) (fun r23 =>
            if ib s22.1 6 then
            Option.bind (d_363 n (r23.2 198 (ix s22.1)) r23) (fun r25 =>
            Option.bind (d_362 n 33 r25) (fun r26 =>
            if ib s22.1 6 then
            if ib (r26.1 199 (ix s22.1)) 12 then
            Option.bind (d_363 n (r26.2 189 (ix (r26.1 199 (ix s22.1)))) r26) (fun r29 =>
            Option.bind (d_362 n 9 r29) (fun r30 =>
            Option.bind (d_442 n (1212 + s22.1) r30) (fun r31 =>
            Option.bind (d_362 n 34 r31) (fun r32 =>
            lt (s22.1 + 1 : Int32) (fun v34 =>
            some (.inl (v34, r32)))))))
            else none
            else none))
            else none)) n (0, x20))
        (fun x36 : cS =>
          Option.bind (whl (R := (cS)) (fun s38 : Int32 × cS =>
            if (s38.2.1 174 37) ≤ s38.1 then
              some (.inr s38.2)
            else
              Option.bind (d_446 n s38.1 s38.2) (fun r39 =>
              lt (s38.1 + 1 : Int32) (fun v41 =>
              some (.inl (v41, r39))))) n (0, x36))
          (fun x43 : cS =>
            some ((x43.1 174 4), x43))))))))
theorem sp_123 {F Lo n : Nat}  {c y : cS} {w : cW} {K : Int32 × cS → Prop} {Q : ((Option Value) ⊕ String) → List va_E → Prop} (hw : rOK fm w) (hF : 9 ≤ F) (hLo : 200 ≤ Lo)  (h : wp (d_123 n  c) K) (hQ : ∀ r, K r → Q (.inl (some (.int r.1))) (hq false r.2 y w)) : rs (rt_P sc fm) 123 F Lo 0 [(0, .ref 174)] [] (hq false c y w) Q := by
  unfold d_123 at h
  obtain ⟨lv, elv⟩ : ∃ lv : rx_L, lv = [(0, .ref 174)] := ⟨_, rfl⟩
  rw [← elv]
  have l0 : rx_ld lv 0 = some (.ref 174) := by rw [elv]; rfl
  refine rs_aldn wi_123_0 l0 ?_
  refine rs_pure wi_123_1 rfl ?_
  refine rs_topi (v := 0) (by decide) ?_
  obtain ⟨c1, e2, h⟩ := wp_lt h
  refine dq_pi wi_123_2 wp_123_356 tf_174_0 rfl rfl e2 ?_
  refine rs_aldn wi_123_5 l0 ?_
  refine dq_gi wi_123_6 wf_123_634 tf_174_14 ?_
  refine rs_ifne (tg := 14) wi_123_9 ⟨by decide, by decide⟩ (fun q => ?_) (fun q => ?_)
  ·
    have h := wp_neg h q
    refine rs_aldn wi_123_14 l0 ?_
    refine rs_pure wi_123_15 rfl ?_
    refine rs_topi (v := 0) (by decide) ?_
    obtain ⟨c3, e4, h⟩ := wp_lt h
    refine dq_pi wi_123_16 wp_123_366 tf_174_4 rfl rfl e4 ?_
    refine rs_aldn wi_123_19 l0 ?_
    refine rs_pure wi_123_20 rfl ?_
    refine rs_topi (v := 0) (by decide) ?_
    obtain ⟨c5, e6, h⟩ := wp_lt h
    refine dq_pi wi_123_21 wp_123_378 tf_174_5 (nb_n (by decide)) (nb_f (by decide)) e6 ?_
    refine rs_pure wi_123_24 rfl ?_
    refine rs_topi (v := 0) (by decide) ?_
    refine dl_istn wi_123_25 rfl (fun lv l1 t7 => ?_)
    have l0 := t7 _ _ (by decide) (Or.inl rfl) l0
    refine whl_ex (A := fun s8 : Int32 × cS => ∀ lv, rx_ld lv 0 = some (.ref 174) → rx_ld lv 1 = some (.int s8.1) → rs (rt_P sc fm) 123 F Lo 26 lv [] (hq false s8.2 y w) Q) (B := (fun x13 : cS => ∀ lv, rx_ld lv 0 = some (.ref 174) → rs (rt_P sc fm) 123 F Lo 45 lv [] (hq false x13 y w) Q)) ?_ ?_ _ _ (wp_bind h) _ l0 l1
    · intro s8 h lv l0 l1
      refine rs_ildn wi_123_26 l1 ?_
      refine rs_aldn wi_123_27 l0 ?_
      refine dq_gi wi_123_28 wf_123_447 tf_174_15 ?_
      refine rs_icge (tg := 45) wi_123_31 ⟨by decide, by decide⟩ (fun q => ?_) (fun q => ?_)
      ·
        have h := wp_pos h q
        exact h _ l0
      ·
        have h := wp_neg h q
        refine rs_aldn wi_123_34 l0 ?_
        refine rs_ildn wi_123_35 l1 ?_
        refine rs_V wi_123_36 wc_123_820 rfl (dq_isa tf_174_0 wa_15_444) (Nat.le_trans (by decide) hF) (ml_le wm_444 (Nat.le_trans (by decide) hLo)) rfl (sp_444 hw (Nat.le_trans (by decide : 5 ≤ 9 - 1) (Nat.sub_le_sub_right hF 1)) (ml_sub wm_444 (Nat.le_trans (by decide : 107 ≤ 200 - 23) (Nat.sub_le_sub_right hLo 23))) (wp_bind h) (fun r9 h => rs_back0 ?_))
        obtain ⟨v11, e12, h⟩ := wp_lt h
        refine dl_inc wi_123_39 l1 rfl e12 (fun lv l1 t10 => ?_)
        have l0 := t10 _ _ (by decide) (Or.inl rfl) l0
        refine rs_goto (tg := 26) wi_123_42 ⟨by decide, by decide⟩ ?_
        exact h _ l0 l1
    ·
      intro x13 h lv l0
      refine rs_pure wi_123_45 rfl ?_
      refine rs_topi (v := 0) (by decide) ?_
      refine dl_istn wi_123_46 rfl (fun lv l1 t14 => ?_)
      have l0 := t14 _ _ (by decide) (Or.inl rfl) l0
      refine whl_ex (A := fun s15 : Int32 × cS => ∀ lv, rx_ld lv 0 = some (.ref 174) → rx_ld lv 1 = some (.int s15.1) → rs (rt_P sc fm) 123 F Lo 47 lv [] (hq false s15.2 y w) Q) (B := (fun x20 : cS => ∀ lv, rx_ld lv 0 = some (.ref 174) → rs (rt_P sc fm) 123 F Lo 66 lv [] (hq false x20 y w) Q)) ?_ ?_ _ _ (wp_bind h) _ l0 l1
      · intro s15 h lv l0 l1
        refine rs_ildn wi_123_47 l1 ?_
        refine rs_aldn wi_123_48 l0 ?_
        refine dq_gi wi_123_49 wf_123_450 tf_174_24 ?_
        refine rs_icge (tg := 66) wi_123_52 ⟨by decide, by decide⟩ (fun q => ?_) (fun q => ?_)
        ·
          have h := wp_pos h q
          exact h _ l0
        ·
          have h := wp_neg h q
          refine rs_aldn wi_123_55 l0 ?_
          refine rs_ildn wi_123_56 l1 ?_
          refine rs_V wi_123_57 wc_123_823 rfl (dq_isa tf_174_0 wa_15_445) (Nat.le_trans (by decide) hF) (ml_le wm_445 (Nat.le_trans (by decide) hLo)) rfl (sp_445 hw (Nat.le_trans (by decide : 8 ≤ 9 - 1) (Nat.sub_le_sub_right hF 1)) (ml_sub wm_445 (Nat.le_trans (by decide : 176 ≤ 200 - 23) (Nat.sub_le_sub_right hLo 23))) (wp_bind h) (fun r16 h => rs_back0 ?_))
          obtain ⟨v18, e19, h⟩ := wp_lt h
          refine dl_inc wi_123_60 l1 rfl e19 (fun lv l1 t17 => ?_)
          have l0 := t17 _ _ (by decide) (Or.inl rfl) l0
          refine rs_goto (tg := 47) wi_123_63 ⟨by decide, by decide⟩ ?_
          exact h _ l0 l1
      ·
        intro x20 h lv l0
        refine rs_pure wi_123_66 rfl ?_
        refine rs_topi (v := 0) (by decide) ?_
        refine dl_istn wi_123_67 rfl (fun lv l1 t21 => ?_)
        have l0 := t21 _ _ (by decide) (Or.inl rfl) l0
        refine whl_ex (A := fun s22 : Int32 × cS => ∀ lv, rx_ld lv 0 = some (.ref 174) → rx_ld lv 1 = some (.int s22.1) → rs (rt_P sc fm) 123 F Lo 68 lv [] (hq false s22.2 y w) Q) (B := (fun x36 : cS => ∀ lv, rx_ld lv 0 = some (.ref 174) → rs (rt_P sc fm) 123 F Lo 142 lv [] (hq false x36 y w) Q)) ?_ ?_ _ _ (wp_bind h) _ l0 l1
        · intro s22 h lv l0 l1
          refine rs_ildn wi_123_68 l1 ?_
          refine rs_aldn wi_123_69 l0 ?_
          refine dq_gi wi_123_70 wf_123_453 tf_174_34 ?_
          refine rs_icge (tg := 142) wi_123_73 ⟨by decide, by decide⟩ (fun q => ?_) (fun q => ?_)
          ·
            have h := wp_pos h q
            exact h _ l0
          ·
            have h := wp_neg h q
            refine rs_aldn wi_123_76 l0 ?_
            refine rs_ldcS wi_123_77 wk_123_30 ?_
            refine rs_V wi_123_79 wc_123_402 rfl (dq_isa tf_174_0 wa_15_362) (Nat.le_trans (by decide) hF) (ml_le wm_362 (Nat.le_trans (by decide) hLo)) rfl (sp_362 hw (Nat.le_trans (by decide : 4 ≤ 9 - 1) (Nat.sub_le_sub_right hF 1)) (ml_sub wm_362 (Nat.le_trans (by decide : 85 ≤ 200 - 22) (Nat.sub_le_sub_right hLo 22))) (by decide +kernel) (wp_bind h) (fun r23 h => rs_back0 ?_))
            refine rs_aldn wi_123_82 l0 ?_
            refine rs_aldn wi_123_83 l0 ?_
            refine dq_gr wi_123_84 wf_123_146 tf_174_35 ?_
            refine rs_ildn wi_123_87 l1 ?_
            obtain ⟨g24, h⟩ := wp_gd h
            refine dq_lald wi_123_88 t_198 g24 ?_
            refine rs_V wi_123_89 wc_123_765 rfl (dq_isa tf_174_0 wa_15_363) (Nat.le_trans (by decide) hF) (ml_le wm_363 (Nat.le_trans (by decide) hLo)) rfl (sp_363 hw (Nat.le_trans (by decide : 2 ≤ 9 - 1) (Nat.sub_le_sub_right hF 1)) (ml_sub wm_363 (Nat.le_trans (by decide : 44 ≤ 200 - 22) (Nat.sub_le_sub_right hLo 22))) (wp_bind h) (fun r25 h => rs_back0 ?_))
            refine rs_aldn wi_123_92 l0 ?_
            refine rs_ldcwS wi_123_93 wk_123_794 ?_
            refine rs_V wi_123_96 wc_123_402 rfl (dq_isa tf_174_0 wa_15_362) (Nat.le_trans (by decide) hF) (ml_le wm_362 (Nat.le_trans (by decide) hLo)) rfl (sp_362 hw (Nat.le_trans (by decide : 4 ≤ 9 - 1) (Nat.sub_le_sub_right hF 1)) (ml_sub wm_362 (Nat.le_trans (by decide : 85 ≤ 200 - 22) (Nat.sub_le_sub_right hLo 22))) (by decide +kernel) (wp_bind h) (fun r26 h => rs_back0 ?_))
            refine rs_aldn wi_123_99 l0 ?_
            refine rs_aldn wi_123_100 l0 ?_
            refine dq_gr wi_123_101 wf_123_119 tf_174_25 ?_
            refine rs_aldn wi_123_104 l0 ?_
            refine dq_gr wi_123_105 wf_123_149 tf_174_36 ?_
            refine rs_ildn wi_123_108 l1 ?_
            obtain ⟨g27, h⟩ := wp_gd h
            refine dq_iald wi_123_109 t_199 g27 ?_
            obtain ⟨g28, h⟩ := wp_gd h
            refine dq_lald wi_123_110 t_189 g28 ?_
            refine rs_V wi_123_111 wc_123_765 rfl (dq_isa tf_174_0 wa_15_363) (Nat.le_trans (by decide) hF) (ml_le wm_363 (Nat.le_trans (by decide) hLo)) rfl (sp_363 hw (Nat.le_trans (by decide : 2 ≤ 9 - 1) (Nat.sub_le_sub_right hF 1)) (ml_sub wm_363 (Nat.le_trans (by decide : 44 ≤ 200 - 22) (Nat.sub_le_sub_right hLo 22))) (wp_bind h) (fun r29 h => rs_back0 ?_))
            refine rs_aldn wi_123_114 l0 ?_
            refine rs_ldcS wi_123_115 wk_123_32 ?_
            refine rs_V wi_123_117 wc_123_402 rfl (dq_isa tf_174_0 wa_15_362) (Nat.le_trans (by decide) hF) (ml_le wm_362 (Nat.le_trans (by decide) hLo)) rfl (sp_362 hw (Nat.le_trans (by decide : 4 ≤ 9 - 1) (Nat.sub_le_sub_right hF 1)) (ml_sub wm_362 (Nat.le_trans (by decide : 85 ≤ 200 - 22) (Nat.sub_le_sub_right hLo 22))) (by decide +kernel) (wp_bind h) (fun r30 h => rs_back0 ?_))
            refine rs_aldn wi_123_120 l0 ?_
            refine rs_pure wi_123_121 rfl ?_
            refine rs_topi (v := 1212) (by decide) ?_
            refine rs_ildn wi_123_124 l1 ?_
            refine rs_pure wi_123_125 rfl ?_
            refine rs_V wi_123_126 wc_123_803 rfl (dq_isa tf_174_0 wa_15_442) (Nat.le_trans (by decide) hF) (ml_le wm_442 (Nat.le_trans (by decide) hLo)) rfl (sp_442 hw (Nat.le_trans (by decide : 7 ≤ 9 - 1) (Nat.sub_le_sub_right hF 1)) (ml_sub wm_442 (Nat.le_trans (by decide : 154 ≤ 200 - 22) (Nat.sub_le_sub_right hLo 22))) (wp_bind h) (fun r31 h => rs_back0 ?_))
            refine rs_aldn wi_123_129 l0 ?_
            refine rs_ldcwS wi_123_130 wk_123_801 ?_
            refine rs_V wi_123_133 wc_123_402 rfl (dq_isa tf_174_0 wa_15_362) (Nat.le_trans (by decide) hF) (ml_le wm_362 (Nat.le_trans (by decide) hLo)) rfl (sp_362 hw (Nat.le_trans (by decide : 4 ≤ 9 - 1) (Nat.sub_le_sub_right hF 1)) (ml_sub wm_362 (Nat.le_trans (by decide : 85 ≤ 200 - 22) (Nat.sub_le_sub_right hLo 22))) (by decide +kernel) (wp_bind h) (fun r32 h => rs_back0 ?_))
            obtain ⟨v34, e35, h⟩ := wp_lt h
            refine dl_inc wi_123_136 l1 rfl e35 (fun lv l1 t33 => ?_)
            have l0 := t33 _ _ (by decide) (Or.inl rfl) l0
            refine rs_goto (tg := 68) wi_123_139 ⟨by decide, by decide⟩ ?_
            exact h _ l0 l1
        ·
          intro x36 h lv l0
          refine rs_pure wi_123_142 rfl ?_
          refine rs_topi (v := 0) (by decide) ?_
          refine dl_istn wi_123_143 rfl (fun lv l1 t37 => ?_)
          have l0 := t37 _ _ (by decide) (Or.inl rfl) l0
          refine whl_ex (A := fun s38 : Int32 × cS => ∀ lv, rx_ld lv 0 = some (.ref 174) → rx_ld lv 1 = some (.int s38.1) → rs (rt_P sc fm) 123 F Lo 144 lv [] (hq false s38.2 y w) Q) (B := (fun x43 : cS => ∀ lv, rx_ld lv 0 = some (.ref 174) → rs (rt_P sc fm) 123 F Lo 163 lv [] (hq false x43 y w) Q)) ?_ ?_ _ _ (wp_bind h) _ l0 l1
          · intro s38 h lv l0 l1
            refine rs_ildn wi_123_144 l1 ?_
            refine rs_aldn wi_123_145 l0 ?_
            refine dq_gi wi_123_146 wf_123_456 tf_174_37 ?_
            refine rs_icge (tg := 163) wi_123_149 ⟨by decide, by decide⟩ (fun q => ?_) (fun q => ?_)
            ·
              have h := wp_pos h q
              exact h _ l0
            ·
              have h := wp_neg h q
              refine rs_aldn wi_123_152 l0 ?_
              refine rs_ildn wi_123_153 l1 ?_
              refine rs_V wi_123_154 wc_123_826 rfl (dq_isa tf_174_0 wa_15_446) (Nat.le_trans (by decide) hF) (ml_le wm_446 (Nat.le_trans (by decide) hLo)) rfl (sp_446 hw (Nat.le_trans (by decide : 8 ≤ 9 - 1) (Nat.sub_le_sub_right hF 1)) (ml_sub wm_446 (Nat.le_trans (by decide : 176 ≤ 200 - 24) (Nat.sub_le_sub_right hLo 24))) (wp_bind h) (fun r39 h => rs_back0 ?_))
              obtain ⟨v41, e42, h⟩ := wp_lt h
              refine dl_inc wi_123_157 l1 rfl e42 (fun lv l1 t40 => ?_)
              have l0 := t40 _ _ (by decide) (Or.inl rfl) l0
              refine rs_goto (tg := 144) wi_123_160 ⟨by decide, by decide⟩ ?_
              exact h _ l0 l1
          ·
            intro x43 h lv l0
            refine rs_aldn wi_123_163 l0 ?_
            refine dq_gi wi_123_164 wf_123_366 tf_174_4 ?_
            exact rs_iret wi_123_167 wr_123 rfl (hQ ((x43.1 174 4), x43) h)
  ·
    have h := wp_pos h q
    refine rs_pure wi_123_12 rfl ?_
    refine rs_topi (v := (-1)) (by decide) ?_
    exact rs_iret wi_123_13 wr_123 rfl (hQ ((-1), c1) h)
theorem t_234 : ta false 234 3 72 := ⟨rfl, by decide, by decide⟩
theorem tf_174_83 : fo false 174 15 83 (.ref 234) := ⟨_, rfl, rfl, by decide, by decide⟩
theorem wc_124_543 : rx_ct (rt_P sc fm) 124 543 = some (0, 392, 2) := (by decide +kernel : rt_ct 124 543 = some (0, 392, 2))
theorem wc_124_551 : rx_ct (rt_P sc fm) 124 551 = some (0, 395, 3) := (by decide +kernel : rt_ct 124 551 = some (0, 395, 3))
theorem wc_124_637 : rx_ct (rt_P sc fm) 124 637 = some (0, 133, 0) := (by decide +kernel : rt_ct 124 637 = some (0, 133, 0))
theorem wc_124_712 : rx_ct (rt_P sc fm) 124 712 = some (0, 428, 2) := (by decide +kernel : rt_ct 124 712 = some (0, 428, 2))
theorem wc_124_754 : rx_ct (rt_P sc fm) 124 754 = some (0, 437, 2) := (by decide +kernel : rt_ct 124 754 = some (0, 437, 2))
theorem wf_124_149 : rx_ft (rt_P sc fm) 124 149 = some (15, 36) := (by decide +kernel : rt_ft 124 149 = some (15, 36))
theorem wf_124_218 : rx_ft (rt_P sc fm) 124 218 = some (15, 60) := (by decide +kernel : rt_ft 124 218 = some (15, 60))
theorem wf_124_221 : rx_ft (rt_P sc fm) 124 221 = some (15, 61) := (by decide +kernel : rt_ft 124 221 = some (15, 61))
theorem wf_124_255 : rx_ft (rt_P sc fm) 124 255 = some (15, 83) := (by decide +kernel : rt_ft 124 255 = some (15, 83))
theorem wf_124_453 : rx_ft (rt_P sc fm) 124 453 = some (15, 34) := (by decide +kernel : rt_ft 124 453 = some (15, 34))
theorem wf_124_456 : rx_ft (rt_P sc fm) 124 456 = some (15, 37) := (by decide +kernel : rt_ft 124 456 = some (15, 37))
theorem wf_124_634 : rx_ft (rt_P sc fm) 124 634 = some (15, 14) := (by decide +kernel : rt_ft 124 634 = some (15, 14))
theorem wf_124_678 : rx_ft (rt_P sc fm) 124 678 = some (15, 74) := (by decide +kernel : rt_ft 124 678 = some (15, 74))
theorem wi_124_0 : ri (rt_P sc fm) 124 0 (.aload_n 0) (1) := ri_of (by decide +kernel) rfl
theorem wi_124_1 : ri (rt_P sc fm) 124 1 (.iconst 0) (2) := ri_of (by decide +kernel) rfl
theorem wi_124_100 : ri (rt_P sc fm) 124 100 (.aload_n 0) (101) := ri_of (by decide +kernel) rfl
theorem wi_124_101 : ri (rt_P sc fm) 124 101 (.getfield 453) (104) := ri_of (by decide +kernel) rfl
theorem wi_124_104 : ri (rt_P sc fm) 124 104 (.if_icmp .ge 142) (107) := ri_of (by decide +kernel) rfl
theorem wi_124_107 : ri (rt_P sc fm) 124 107 (.iconst 0) (108) := ri_of (by decide +kernel) rfl
theorem wi_124_108 : ri (rt_P sc fm) 124 108 (.istore 4) (110) := ri_of (by decide +kernel) rfl
theorem wi_124_110 : ri (rt_P sc fm) 124 110 (.iload 4) (112) := ri_of (by decide +kernel) rfl
theorem wi_124_112 : ri (rt_P sc fm) 124 112 (.aload_n 0) (113) := ri_of (by decide +kernel) rfl
theorem wi_124_113 : ri (rt_P sc fm) 124 113 (.getfield 456) (116) := ri_of (by decide +kernel) rfl
theorem wi_124_116 : ri (rt_P sc fm) 124 116 (.if_icmp .ge 124) (119) := ri_of (by decide +kernel) rfl
theorem wi_124_119 : ri (rt_P sc fm) 124 119 (.sipush 1212) (122) := ri_of (by decide +kernel) rfl
theorem wi_124_12 : ri (rt_P sc fm) 124 12 (.iconst (-1)) (13) := ri_of (by decide +kernel) rfl
theorem wi_124_122 : ri (rt_P sc fm) 124 122 (.iload_n 3) (123) := ri_of (by decide +kernel) rfl
theorem wi_124_123 : ri (rt_P sc fm) 124 123 (.iadd) (124) := ri_of (by decide +kernel) rfl
theorem wi_124_124 : ri (rt_P sc fm) 124 124 (.istore 5) (126) := ri_of (by decide +kernel) rfl
theorem wi_124_126 : ri (rt_P sc fm) 124 126 (.iconst 0) (127) := ri_of (by decide +kernel) rfl
theorem wi_124_127 : ri (rt_P sc fm) 124 127 (.istore 6) (129) := ri_of (by decide +kernel) rfl
theorem wi_124_129 : ri (rt_P sc fm) 124 129 (.iload 6) (131) := ri_of (by decide +kernel) rfl
theorem wi_124_13 : ri (rt_P sc fm) 124 13 (.ireturn) (14) := ri_of (by decide +kernel) rfl
theorem wi_124_131 : ri (rt_P sc fm) 124 131 (.aload_n 0) (132) := ri_of (by decide +kernel) rfl
theorem wi_124_132 : ri (rt_P sc fm) 124 132 (.getfield 218) (135) := ri_of (by decide +kernel) rfl
theorem wi_124_135 : ri (rt_P sc fm) 124 135 (.iload 5) (137) := ri_of (by decide +kernel) rfl
theorem wi_124_137 : ri (rt_P sc fm) 124 137 (.iaload) (138) := ri_of (by decide +kernel) rfl
theorem wi_124_138 : ri (rt_P sc fm) 124 138 (.if_icmp .ge 96) (141) := ri_of (by decide +kernel) rfl
theorem wi_124_14 : ri (rt_P sc fm) 124 14 (.iconst 0) (15) := ri_of (by decide +kernel) rfl
theorem wi_124_141 : ri (rt_P sc fm) 124 141 (.aload_n 0) (142) := ri_of (by decide +kernel) rfl
theorem wi_124_142 : ri (rt_P sc fm) 124 142 (.getfield 255) (145) := ri_of (by decide +kernel) rfl
theorem wi_124_145 : ri (rt_P sc fm) 124 145 (.bipush 12) (147) := ri_of (by decide +kernel) rfl
theorem wi_124_147 : ri (rt_P sc fm) 124 147 (.iload_n 3) (148) := ri_of (by decide +kernel) rfl
theorem wi_124_148 : ri (rt_P sc fm) 124 148 (.imul) (149) := ri_of (by decide +kernel) rfl
theorem wi_124_149 : ri (rt_P sc fm) 124 149 (.iload 4) (151) := ri_of (by decide +kernel) rfl
theorem wi_124_15 : ri (rt_P sc fm) 124 15 (.istore_n 1) (16) := ri_of (by decide +kernel) rfl
theorem wi_124_151 : ri (rt_P sc fm) 124 151 (.iadd) (152) := ri_of (by decide +kernel) rfl
theorem wi_124_152 : ri (rt_P sc fm) 124 152 (.baload) (153) := ri_of (by decide +kernel) rfl
theorem wi_124_153 : ri (rt_P sc fm) 124 153 (.ifCond .eq 81) (156) := ri_of (by decide +kernel) rfl
theorem wi_124_156 : ri (rt_P sc fm) 124 156 (.aload_n 0) (157) := ri_of (by decide +kernel) rfl
theorem wi_124_157 : ri (rt_P sc fm) 124 157 (.getfield 218) (160) := ri_of (by decide +kernel) rfl
theorem wi_124_16 : ri (rt_P sc fm) 124 16 (.iconst 1) (17) := ri_of (by decide +kernel) rfl
theorem wi_124_160 : ri (rt_P sc fm) 124 160 (.bipush 100) (162) := ri_of (by decide +kernel) rfl
theorem wi_124_162 : ri (rt_P sc fm) 124 162 (.iload 4) (164) := ri_of (by decide +kernel) rfl
theorem wi_124_164 : ri (rt_P sc fm) 124 164 (.imul) (165) := ri_of (by decide +kernel) rfl
theorem wi_124_165 : ri (rt_P sc fm) 124 165 (.iaload) (166) := ri_of (by decide +kernel) rfl
theorem wi_124_166 : ri (rt_P sc fm) 124 166 (.bipush 20) (168) := ri_of (by decide +kernel) rfl
theorem wi_124_168 : ri (rt_P sc fm) 124 168 (.if_icmp .eq 60) (171) := ri_of (by decide +kernel) rfl
theorem wi_124_17 : ri (rt_P sc fm) 124 17 (.istore_n 2) (18) := ri_of (by decide +kernel) rfl
theorem wi_124_171 : ri (rt_P sc fm) 124 171 (.aload_n 0) (172) := ri_of (by decide +kernel) rfl
theorem wi_124_172 : ri (rt_P sc fm) 124 172 (.bipush 100) (174) := ri_of (by decide +kernel) rfl
theorem wi_124_174 : ri (rt_P sc fm) 124 174 (.iload 4) (176) := ri_of (by decide +kernel) rfl
theorem wi_124_176 : ri (rt_P sc fm) 124 176 (.imul) (177) := ri_of (by decide +kernel) rfl
theorem wi_124_177 : ri (rt_P sc fm) 124 177 (.aload_n 0) (178) := ri_of (by decide +kernel) rfl
theorem wi_124_178 : ri (rt_P sc fm) 124 178 (.getfield 218) (181) := ri_of (by decide +kernel) rfl
theorem wi_124_18 : ri (rt_P sc fm) 124 18 (.iload_n 2) (19) := ri_of (by decide +kernel) rfl
theorem wi_124_181 : ri (rt_P sc fm) 124 181 (.bipush 100) (183) := ri_of (by decide +kernel) rfl
theorem wi_124_183 : ri (rt_P sc fm) 124 183 (.iload 4) (185) := ri_of (by decide +kernel) rfl
theorem wi_124_185 : ri (rt_P sc fm) 124 185 (.imul) (186) := ri_of (by decide +kernel) rfl
theorem wi_124_186 : ri (rt_P sc fm) 124 186 (.iaload) (187) := ri_of (by decide +kernel) rfl
theorem wi_124_187 : ri (rt_P sc fm) 124 187 (.aload_n 0) (188) := ri_of (by decide +kernel) rfl
theorem wi_124_188 : ri (rt_P sc fm) 124 188 (.getfield 221) (191) := ri_of (by decide +kernel) rfl
theorem wi_124_19 : ri (rt_P sc fm) 124 19 (.ifCond .eq 242) (22) := ri_of (by decide +kernel) rfl
theorem wi_124_191 : ri (rt_P sc fm) 124 191 (.aload_n 0) (192) := ri_of (by decide +kernel) rfl
theorem wi_124_192 : ri (rt_P sc fm) 124 192 (.iload 5) (194) := ri_of (by decide +kernel) rfl
theorem wi_124_194 : ri (rt_P sc fm) 124 194 (.iload 6) (196) := ri_of (by decide +kernel) rfl
theorem wi_124_196 : ri (rt_P sc fm) 124 196 (.invokevirtual 543) (199) := ri_of (by decide +kernel) rfl
theorem wi_124_199 : ri (rt_P sc fm) 124 199 (.laload) (200) := ri_of (by decide +kernel) rfl
theorem wi_124_2 : ri (rt_P sc fm) 124 2 (.putfield 356) (5) := ri_of (by decide +kernel) rfl
theorem wi_124_200 : ri (rt_P sc fm) 124 200 (.invokevirtual 551) (203) := ri_of (by decide +kernel) rfl
theorem wi_124_203 : ri (rt_P sc fm) 124 203 (.ifCond .eq 6) (206) := ri_of (by decide +kernel) rfl
theorem wi_124_206 : ri (rt_P sc fm) 124 206 (.goto 22) (209) := ri_of (by decide +kernel) rfl
theorem wi_124_209 : ri (rt_P sc fm) 124 209 (.aload_n 0) (210) := ri_of (by decide +kernel) rfl
theorem wi_124_210 : ri (rt_P sc fm) 124 210 (.aload_n 0) (211) := ri_of (by decide +kernel) rfl
theorem wi_124_211 : ri (rt_P sc fm) 124 211 (.iload 5) (213) := ri_of (by decide +kernel) rfl
theorem wi_124_213 : ri (rt_P sc fm) 124 213 (.iload 6) (215) := ri_of (by decide +kernel) rfl
theorem wi_124_215 : ri (rt_P sc fm) 124 215 (.invokevirtual 543) (218) := ri_of (by decide +kernel) rfl
theorem wi_124_218 : ri (rt_P sc fm) 124 218 (.bipush 100) (220) := ri_of (by decide +kernel) rfl
theorem wi_124_22 : ri (rt_P sc fm) 124 22 (.iconst 0) (23) := ri_of (by decide +kernel) rfl
theorem wi_124_220 : ri (rt_P sc fm) 124 220 (.iload 4) (222) := ri_of (by decide +kernel) rfl
theorem wi_124_222 : ri (rt_P sc fm) 124 222 (.imul) (223) := ri_of (by decide +kernel) rfl
theorem wi_124_223 : ri (rt_P sc fm) 124 223 (.invokevirtual 754) (226) := ri_of (by decide +kernel) rfl
theorem wi_124_226 : ri (rt_P sc fm) 124 226 (.iconst 1) (227) := ri_of (by decide +kernel) rfl
theorem wi_124_227 : ri (rt_P sc fm) 124 227 (.istore_n 2) (228) := ri_of (by decide +kernel) rfl
theorem wi_124_228 : ri (rt_P sc fm) 124 228 (.iinc 6 1) (231) := ri_of (by decide +kernel) rfl
theorem wi_124_23 : ri (rt_P sc fm) 124 23 (.istore_n 3) (24) := ri_of (by decide +kernel) rfl
theorem wi_124_231 : ri (rt_P sc fm) 124 231 (.goto (-102)) (234) := ri_of (by decide +kernel) rfl
theorem wi_124_234 : ri (rt_P sc fm) 124 234 (.iinc 4 1) (237) := ri_of (by decide +kernel) rfl
theorem wi_124_237 : ri (rt_P sc fm) 124 237 (.goto (-127)) (240) := ri_of (by decide +kernel) rfl
theorem wi_124_24 : ri (rt_P sc fm) 124 24 (.iload_n 3) (25) := ri_of (by decide +kernel) rfl
theorem wi_124_240 : ri (rt_P sc fm) 124 240 (.iinc 3 1) (243) := ri_of (by decide +kernel) rfl
theorem wi_124_243 : ri (rt_P sc fm) 124 243 (.goto (-144)) (246) := ri_of (by decide +kernel) rfl
theorem wi_124_246 : ri (rt_P sc fm) 124 246 (.iload_n 1) (247) := ri_of (by decide +kernel) rfl
theorem wi_124_247 : ri (rt_P sc fm) 124 247 (.iload_n 2) (248) := ri_of (by decide +kernel) rfl
theorem wi_124_248 : ri (rt_P sc fm) 124 248 (.ifCond .eq 7) (251) := ri_of (by decide +kernel) rfl
theorem wi_124_25 : ri (rt_P sc fm) 124 25 (.aload_n 0) (26) := ri_of (by decide +kernel) rfl
theorem wi_124_251 : ri (rt_P sc fm) 124 251 (.iconst 1) (252) := ri_of (by decide +kernel) rfl
theorem wi_124_252 : ri (rt_P sc fm) 124 252 (.goto 4) (255) := ri_of (by decide +kernel) rfl
theorem wi_124_255 : ri (rt_P sc fm) 124 255 (.iconst 0) (256) := ri_of (by decide +kernel) rfl
theorem wi_124_256 : ri (rt_P sc fm) 124 256 (.iadd) (257) := ri_of (by decide +kernel) rfl
theorem wi_124_257 : ri (rt_P sc fm) 124 257 (.istore_n 1) (258) := ri_of (by decide +kernel) rfl
theorem wi_124_258 : ri (rt_P sc fm) 124 258 (.goto (-240)) (261) := ri_of (by decide +kernel) rfl
theorem wi_124_26 : ri (rt_P sc fm) 124 26 (.getfield 453) (29) := ri_of (by decide +kernel) rfl
theorem wi_124_261 : ri (rt_P sc fm) 124 261 (.aload_n 0) (262) := ri_of (by decide +kernel) rfl
theorem wi_124_262 : ri (rt_P sc fm) 124 262 (.invokevirtual 637) (265) := ri_of (by decide +kernel) rfl
theorem wi_124_265 : ri (rt_P sc fm) 124 265 (.iload_n 1) (266) := ri_of (by decide +kernel) rfl
theorem wi_124_266 : ri (rt_P sc fm) 124 266 (.ireturn) (267) := ri_of (by decide +kernel) rfl
theorem wi_124_29 : ri (rt_P sc fm) 124 29 (.if_icmp .ge 66) (32) := ri_of (by decide +kernel) rfl
theorem wi_124_32 : ri (rt_P sc fm) 124 32 (.iconst 0) (33) := ri_of (by decide +kernel) rfl
theorem wi_124_33 : ri (rt_P sc fm) 124 33 (.istore 4) (35) := ri_of (by decide +kernel) rfl
theorem wi_124_35 : ri (rt_P sc fm) 124 35 (.iload 4) (37) := ri_of (by decide +kernel) rfl
theorem wi_124_37 : ri (rt_P sc fm) 124 37 (.aload_n 0) (38) := ri_of (by decide +kernel) rfl
theorem wi_124_38 : ri (rt_P sc fm) 124 38 (.getfield 456) (41) := ri_of (by decide +kernel) rfl
theorem wi_124_41 : ri (rt_P sc fm) 124 41 (.if_icmp .ge 48) (44) := ri_of (by decide +kernel) rfl
theorem wi_124_44 : ri (rt_P sc fm) 124 44 (.aload_n 0) (45) := ri_of (by decide +kernel) rfl
theorem wi_124_45 : ri (rt_P sc fm) 124 45 (.bipush 100) (47) := ri_of (by decide +kernel) rfl
theorem wi_124_47 : ri (rt_P sc fm) 124 47 (.iload 4) (49) := ri_of (by decide +kernel) rfl
theorem wi_124_49 : ri (rt_P sc fm) 124 49 (.imul) (50) := ri_of (by decide +kernel) rfl
theorem wi_124_5 : ri (rt_P sc fm) 124 5 (.aload_n 0) (6) := ri_of (by decide +kernel) rfl
theorem wi_124_50 : ri (rt_P sc fm) 124 50 (.aload_n 0) (51) := ri_of (by decide +kernel) rfl
theorem wi_124_51 : ri (rt_P sc fm) 124 51 (.getfield 149) (54) := ri_of (by decide +kernel) rfl
theorem wi_124_54 : ri (rt_P sc fm) 124 54 (.iload_n 3) (55) := ri_of (by decide +kernel) rfl
theorem wi_124_55 : ri (rt_P sc fm) 124 55 (.iaload) (56) := ri_of (by decide +kernel) rfl
theorem wi_124_56 : ri (rt_P sc fm) 124 56 (.invokevirtual 712) (59) := ri_of (by decide +kernel) rfl
theorem wi_124_59 : ri (rt_P sc fm) 124 59 (.aload_n 0) (60) := ri_of (by decide +kernel) rfl
theorem wi_124_6 : ri (rt_P sc fm) 124 6 (.getfield 634) (9) := ri_of (by decide +kernel) rfl
theorem wi_124_60 : ri (rt_P sc fm) 124 60 (.getfield 255) (63) := ri_of (by decide +kernel) rfl
theorem wi_124_63 : ri (rt_P sc fm) 124 63 (.bipush 12) (65) := ri_of (by decide +kernel) rfl
theorem wi_124_65 : ri (rt_P sc fm) 124 65 (.iload_n 3) (66) := ri_of (by decide +kernel) rfl
theorem wi_124_66 : ri (rt_P sc fm) 124 66 (.imul) (67) := ri_of (by decide +kernel) rfl
theorem wi_124_67 : ri (rt_P sc fm) 124 67 (.iload 4) (69) := ri_of (by decide +kernel) rfl
theorem wi_124_69 : ri (rt_P sc fm) 124 69 (.iadd) (70) := ri_of (by decide +kernel) rfl
theorem wi_124_70 : ri (rt_P sc fm) 124 70 (.aload_n 0) (71) := ri_of (by decide +kernel) rfl
theorem wi_124_71 : ri (rt_P sc fm) 124 71 (.getfield 678) (74) := ri_of (by decide +kernel) rfl
theorem wi_124_74 : ri (rt_P sc fm) 124 74 (.ifCond .le 7) (77) := ri_of (by decide +kernel) rfl
theorem wi_124_77 : ri (rt_P sc fm) 124 77 (.iconst 1) (78) := ri_of (by decide +kernel) rfl
theorem wi_124_78 : ri (rt_P sc fm) 124 78 (.goto 4) (81) := ri_of (by decide +kernel) rfl
theorem wi_124_81 : ri (rt_P sc fm) 124 81 (.iconst 0) (82) := ri_of (by decide +kernel) rfl
theorem wi_124_82 : ri (rt_P sc fm) 124 82 (.bastore) (83) := ri_of (by decide +kernel) rfl
theorem wi_124_83 : ri (rt_P sc fm) 124 83 (.iinc 4 1) (86) := ri_of (by decide +kernel) rfl
theorem wi_124_86 : ri (rt_P sc fm) 124 86 (.goto (-51)) (89) := ri_of (by decide +kernel) rfl
theorem wi_124_89 : ri (rt_P sc fm) 124 89 (.iinc 3 1) (92) := ri_of (by decide +kernel) rfl
theorem wi_124_9 : ri (rt_P sc fm) 124 9 (.ifCond .ne 5) (12) := ri_of (by decide +kernel) rfl
theorem wi_124_92 : ri (rt_P sc fm) 124 92 (.goto (-68)) (95) := ri_of (by decide +kernel) rfl
theorem wi_124_95 : ri (rt_P sc fm) 124 95 (.iconst 0) (96) := ri_of (by decide +kernel) rfl
theorem wi_124_96 : ri (rt_P sc fm) 124 96 (.istore_n 2) (97) := ri_of (by decide +kernel) rfl
theorem wi_124_97 : ri (rt_P sc fm) 124 97 (.iconst 0) (98) := ri_of (by decide +kernel) rfl
theorem wi_124_98 : ri (rt_P sc fm) 124 98 (.istore_n 3) (99) := ri_of (by decide +kernel) rfl
theorem wi_124_99 : ri (rt_P sc fm) 124 99 (.iload_n 3) (100) := ri_of (by decide +kernel) rfl
theorem wp_124_356 : rx_pt (rt_P sc fm) 124 356 = some (15, 0, .int) := (by decide +kernel : rt_pt 124 356 = some (15, 0, .int))
theorem wr_124 : rx_rt (rt_P sc fm) 124 = (some FieldType.int) := (by decide +kernel : rt_rt 124 = (some FieldType.int))
/-- MarkHouseModel.rounds()I -/
def d_124 (n : Nat)  (c : cS) : Option (Int32 × cS) :=
  lt (pI c 174 0 0) (fun c1 =>
  if (c1.1 174 14) = 0 then
    some ((-1), c1)
  else
    Option.bind (whl (R := (Int32 × cS)) (fun s5 : Int32 × Int32 × cS =>
      if s5.2.1 = 0 then
        some (.inr (s5.1, s5.2.2))
      else
        Option.bind (whl (R := (cS)) (fun s7 : Int32 × cS =>
          if (s7.2.1 174 34) ≤ s7.1 then
            some (.inr s7.2)
          else
            Option.bind (whl (R := (cS)) (fun s9 : Int32 × cS =>
              if (s9.2.1 174 37) ≤ s9.1 then
                some (.inr s9.2)
              else
                if ib s7.1 6 then
                Option.bind (d_428 n (100 * s9.1) (s9.2.1 199 (ix s7.1)) s9.2) (fun r11 =>
                jn (fun p12 : Int32 =>
                  if ib ((12 * s7.1) + s9.1) 72 then
                  lt (pI r11 234 (ix ((12 * s7.1) + s9.1)) (vp_nar .boolean p12)) (fun c14 =>
                  lt (s9.1 + 1 : Int32) (fun v17 =>
                  some (.inl (v17, c14))))
                  else none)
                (fun j82 =>
                if (r11.1 174 74) ≤ 0 then
                  j82 0
                else
                  j82 1))
                else none) n (0, s7.2))
            (fun x19 : cS =>
              lt (s7.1 + 1 : Int32) (fun v21 =>
              some (.inl (v21, x19))))) n (0, s5.2.2))
        (fun x23 : cS =>
          Option.bind (whl (R := (Int32 × cS)) (fun s26 : Int32 × Int32 × cS =>
            if (s26.2.2.1 174 34) ≤ s26.2.1 then
              some (.inr (s26.1, s26.2.2))
            else
              Option.bind (whl (R := (Int32 × cS)) (fun s28 : Int32 × Int32 × cS =>
                if (s28.2.2.1 174 37) ≤ s28.2.1 then
                  some (.inr (s28.1, s28.2.2))
                else
                  lt ((1212 + s26.2.1) : Int32) (fun v30 =>
                  Option.bind (whl (R := (Int32 × cS)) (fun s33 : Int32 × Int32 × cS =>
                    if ib v30 1219 then
                    if (s33.2.2.1 222 (ix v30)) ≤ s33.2.1 then
                      some (.inr (s33.1, s33.2.2))
                    else
                      if ib ((12 * s26.2.1) + s28.2.1) 72 then
                      if (s33.2.2.1 234 (ix ((12 * s26.2.1) + s28.2.1))) = 0 then
                        some (.inr (s33.1, s33.2.2))
                      else
                        if ib (100 * s28.2.1) 1219 then
                        jn (fun p37 : Int32 × cS =>
                          lt (s33.2.1 + 1 : Int32) (fun v39 =>
                          some (.inl (p37.1, v39, p37.2))))
                        (fun j228 =>
                        if (s33.2.2.1 222 (ix (100 * s28.2.1))) = 20 then
                          j228 (s33.1, s33.2.2)
                        else
                          if ib (100 * s28.2.1) 1219 then
                          Option.bind (d_392 n v30 s33.2.1) (fun v42 =>
                          if ib v42 24380 then
                          Option.bind (d_395 n (100 * s28.2.1) (s33.2.2.1 222 (ix (100 * s28.2.1))) (s33.2.2.2 223 (ix v42)) s33.2.2) (fun v44 =>
                          if v44 = 0 then
                            Option.bind (d_392 n v30 s33.2.1) (fun v45 =>
                            Option.bind (d_437 n v45 (100 * s28.2.1) s33.2.2) (fun r46 =>
                            j228 (1, r46)))
                          else
                            j228 (s33.1, s33.2.2))
                          else none)
                          else none)
                        else none
                      else none
                    else none) n (s28.1, 0, s28.2.2))
                  (fun x48 : Int32 × cS =>
                    lt (s28.2.1 + 1 : Int32) (fun v50 =>
                    some (.inl (x48.1, v50, x48.2)))))) n (s26.1, 0, s26.2.2))
              (fun x52 : Int32 × cS =>
                lt (s26.2.1 + 1 : Int32) (fun v54 =>
                some (.inl (x52.1, v54, x52.2))))) n (0, 0, x23))
          (fun x56 : Int32 × cS =>
            jn (fun p57 : Int32 =>
              lt ((s5.1 + p57) : Int32) (fun v59 =>
              some (.inl (v59, x56.1, x56.2))))
            (fun j256 =>
            if x56.1 = 0 then
              j256 0
            else
              j256 1)))) n (0, 1, c1))
    (fun x61 : Int32 × cS =>
      Option.bind (d_133 n x61.2) (fun r62 =>
      some (x61.1, r62))))
theorem sp_124 {F Lo n : Nat}  {c y : cS} {w : cW} {K : Int32 × cS → Prop} {Q : ((Option Value) ⊕ String) → List va_E → Prop} (hw : rOK fm w) (hF : 4 ≤ F) (hLo : 105 ≤ Lo)  (h : wp (d_124 n  c) K) (hQ : ∀ r, K r → Q (.inl (some (.int r.1))) (hq false r.2 y w)) : rs (rt_P sc fm) 124 F Lo 0 [(0, .ref 174)] [] (hq false c y w) Q := by
  unfold d_124 at h
  obtain ⟨lv, elv⟩ : ∃ lv : rx_L, lv = [(0, .ref 174)] := ⟨_, rfl⟩
  rw [← elv]
  have l0 : rx_ld lv 0 = some (.ref 174) := by rw [elv]; rfl
  refine rs_aldn wi_124_0 l0 ?_
  refine rs_pure wi_124_1 rfl ?_
  refine rs_topi (v := 0) (by decide) ?_
  obtain ⟨c1, e2, h⟩ := wp_lt h
  refine dq_pi wi_124_2 wp_124_356 tf_174_0 rfl rfl e2 ?_
  refine rs_aldn wi_124_5 l0 ?_
  refine dq_gi wi_124_6 wf_124_634 tf_174_14 ?_
  refine rs_ifne (tg := 14) wi_124_9 ⟨by decide, by decide⟩ (fun q => ?_) (fun q => ?_)
  ·
    have h := wp_neg h q
    refine rs_pure wi_124_14 rfl ?_
    refine rs_topi (v := 0) (by decide) ?_
    refine dl_istn wi_124_15 rfl (fun lv l1 t3 => ?_)
    have l0 := t3 _ _ (by decide) (Or.inl rfl) l0
    refine rs_pure wi_124_16 rfl ?_
    refine rs_topi (v := 1) (by decide) ?_
    refine dl_istn wi_124_17 rfl (fun lv l2 t4 => ?_)
    have l0 := t4 _ _ (by decide) (Or.inl rfl) l0
    have l1 := t4 _ _ (by decide) (Or.inl rfl) l1
    refine whl_ex (A := fun s5 : Int32 × Int32 × cS => ∀ lv, rx_ld lv 0 = some (.ref 174) → rx_ld lv 1 = some (.int s5.1) → rx_ld lv 2 = some (.int s5.2.1) → rs (rt_P sc fm) 124 F Lo 18 lv [] (hq false s5.2.2 y w) Q) (B := (fun x61 : Int32 × cS => ∀ lv, rx_ld lv 0 = some (.ref 174) → rx_ld lv 1 = some (.int x61.1) → rs (rt_P sc fm) 124 F Lo 261 lv [] (hq false x61.2 y w) Q)) ?_ ?_ _ _ (wp_bind h) _ l0 l1 l2
    · intro s5 h lv l0 l1 l2
      refine rs_ildn wi_124_18 l2 ?_
      refine rs_ifeq (tg := 261) wi_124_19 ⟨by decide, by decide⟩ (fun q => ?_) (fun q => ?_)
      ·
        have h := wp_pos h q
        exact h _ l0 l1
      ·
        have h := wp_neg h q
        refine rs_pure wi_124_22 rfl ?_
        refine rs_topi (v := 0) (by decide) ?_
        refine dl_istn wi_124_23 rfl (fun lv l3 t6 => ?_)
        have l0 := t6 _ _ (by decide) (Or.inl rfl) l0
        have l1 := t6 _ _ (by decide) (Or.inl rfl) l1
        refine whl_ex (A := fun s7 : Int32 × cS => ∀ lv, rx_ld lv 0 = some (.ref 174) → rx_ld lv 1 = some (.int s5.1) → rx_ld lv 3 = some (.int s7.1) → rs (rt_P sc fm) 124 F Lo 24 lv [] (hq false s7.2 y w) Q) (B := (fun x23 : cS => ∀ lv, rx_ld lv 0 = some (.ref 174) → rx_ld lv 1 = some (.int s5.1) → rs (rt_P sc fm) 124 F Lo 95 lv [] (hq false x23 y w) Q)) ?_ ?_ _ _ (wp_bind h) _ l0 l1 l3
        · intro s7 h lv l0 l1 l3
          refine rs_ildn wi_124_24 l3 ?_
          refine rs_aldn wi_124_25 l0 ?_
          refine dq_gi wi_124_26 wf_124_453 tf_174_34 ?_
          refine rs_icge (tg := 95) wi_124_29 ⟨by decide, by decide⟩ (fun q => ?_) (fun q => ?_)
          ·
            have h := wp_pos h q
            exact h _ l0 l1
          ·
            have h := wp_neg h q
            refine rs_pure wi_124_32 rfl ?_
            refine rs_topi (v := 0) (by decide) ?_
            refine dl_ist wi_124_33 rfl (fun lv l4 t8 => ?_)
            have l0 := t8 _ _ (by decide) (Or.inl rfl) l0
            have l1 := t8 _ _ (by decide) (Or.inl rfl) l1
            have l3 := t8 _ _ (by decide) (Or.inl rfl) l3
            refine whl_ex (A := fun s9 : Int32 × cS => ∀ lv, rx_ld lv 0 = some (.ref 174) → rx_ld lv 1 = some (.int s5.1) → rx_ld lv 3 = some (.int s7.1) → rx_ld lv 4 = some (.int s9.1) → rs (rt_P sc fm) 124 F Lo 35 lv [] (hq false s9.2 y w) Q) (B := (fun x19 : cS => ∀ lv, rx_ld lv 0 = some (.ref 174) → rx_ld lv 1 = some (.int s5.1) → rx_ld lv 3 = some (.int s7.1) → rs (rt_P sc fm) 124 F Lo 89 lv [] (hq false x19 y w) Q)) ?_ ?_ _ _ (wp_bind h) _ l0 l1 l3 l4
            · intro s9 h lv l0 l1 l3 l4
              refine rs_ild wi_124_35 l4 ?_
              refine rs_aldn wi_124_37 l0 ?_
              refine dq_gi wi_124_38 wf_124_456 tf_174_37 ?_
              refine rs_icge (tg := 89) wi_124_41 ⟨by decide, by decide⟩ (fun q => ?_) (fun q => ?_)
              ·
                have h := wp_pos h q
                exact h _ l0 l1 l3
              ·
                have h := wp_neg h q
                refine rs_aldn wi_124_44 l0 ?_
                refine rs_pure wi_124_45 rfl ?_
                refine rs_topi (v := 100) (by decide) ?_
                refine rs_ild wi_124_47 l4 ?_
                refine rs_pure wi_124_49 rfl ?_
                refine rs_aldn wi_124_50 l0 ?_
                refine dq_gr wi_124_51 wf_124_149 tf_174_36 ?_
                refine rs_ildn wi_124_54 l3 ?_
                obtain ⟨g10, h⟩ := wp_gd h
                refine dq_iald wi_124_55 t_199 g10 ?_
                refine rs_V wi_124_56 wc_124_712 rfl (dq_isa tf_174_0 wa_15_428) (Nat.le_trans (by decide) hF) (ml_le wm_428 (Nat.le_trans (by decide) hLo)) rfl (sp_428 hw (Nat.le_trans (by decide : 3 ≤ 4 - 1) (Nat.sub_le_sub_right hF 1)) (ml_sub wm_428 (Nat.le_trans (by decide : 77 ≤ 105 - 28) (Nat.sub_le_sub_right hLo 28))) (wp_bind h) (fun r11 h => rs_back0 ?_))
                refine rs_aldn wi_124_59 l0 ?_
                refine dq_gr wi_124_60 wf_124_255 tf_174_83 ?_
                refine rs_pure wi_124_63 rfl ?_
                refine rs_topi (v := 12) (by decide) ?_
                refine rs_ildn wi_124_65 l3 ?_
                refine rs_pure wi_124_66 rfl ?_
                refine rs_ild wi_124_67 l4 ?_
                refine rs_pure wi_124_69 rfl ?_
                refine rs_aldn wi_124_70 l0 ?_
                refine dq_gi wi_124_71 wf_124_678 tf_174_74 ?_
                refine wp_jn (B := fun p12 : Int32 => ∀ lv, rx_ld lv 0 = some (.ref 174) → rx_ld lv 1 = some (.int s5.1) → rx_ld lv 3 = some (.int s7.1) → rx_ld lv 4 = some (.int s9.1) → rs (rt_P sc fm) 124 F Lo 82 lv [.int p12, .int ((12 * s7.1) + s9.1), .ref 234] (hq false r11 y w) Q) h (fun p12 h lv l0 l1 l3 l4 => ?_) (fun j82 hj82 h => ?_)
                ·
                  obtain ⟨g13, h⟩ := wp_gd h
                  obtain ⟨c14, e15, h⟩ := wp_lt h
                  refine dq_zast wi_124_82 t_234 g13 e15 ?_
                  obtain ⟨v17, e18, h⟩ := wp_lt h
                  refine dl_inc wi_124_83 l4 rfl e18 (fun lv l4 t16 => ?_)
                  have l0 := t16 _ _ (by decide) (Or.inl rfl) l0
                  have l1 := t16 _ _ (by decide) (Or.inl rfl) l1
                  have l3 := t16 _ _ (by decide) (Or.inl rfl) l3
                  refine rs_goto (tg := 35) wi_124_86 ⟨by decide, by decide⟩ ?_
                  exact h _ l0 l1 l3 l4
                refine rs_ifle (tg := 81) wi_124_74 ⟨by decide, by decide⟩ (fun q => ?_) (fun q => ?_)
                ·
                  have h := wp_pos h q
                  refine rs_pure wi_124_81 rfl ?_
                  refine rs_topi (v := 0) (by decide) ?_
                  exact hj82 _ h _ l0 l1 l3 l4
                ·
                  have h := wp_neg h q
                  refine rs_pure wi_124_77 rfl ?_
                  refine rs_topi (v := 1) (by decide) ?_
                  refine rs_goto (tg := 82) wi_124_78 ⟨by decide, by decide⟩ ?_
                  exact hj82 _ h _ l0 l1 l3 l4
            ·
              intro x19 h lv l0 l1 l3
              obtain ⟨v21, e22, h⟩ := wp_lt h
              refine dl_inc wi_124_89 l3 rfl e22 (fun lv l3 t20 => ?_)
              have l0 := t20 _ _ (by decide) (Or.inl rfl) l0
              have l1 := t20 _ _ (by decide) (Or.inl rfl) l1
              refine rs_goto (tg := 24) wi_124_92 ⟨by decide, by decide⟩ ?_
              exact h _ l0 l1 l3
        ·
          intro x23 h lv l0 l1
          refine rs_pure wi_124_95 rfl ?_
          refine rs_topi (v := 0) (by decide) ?_
          refine dl_istn wi_124_96 rfl (fun lv l2 t24 => ?_)
          have l0 := t24 _ _ (by decide) (Or.inl rfl) l0
          have l1 := t24 _ _ (by decide) (Or.inl rfl) l1
          refine rs_pure wi_124_97 rfl ?_
          refine rs_topi (v := 0) (by decide) ?_
          refine dl_istn wi_124_98 rfl (fun lv l3 t25 => ?_)
          have l0 := t25 _ _ (by decide) (Or.inl rfl) l0
          have l1 := t25 _ _ (by decide) (Or.inl rfl) l1
          have l2 := t25 _ _ (by decide) (Or.inl rfl) l2
          refine whl_ex (A := fun s26 : Int32 × Int32 × cS => ∀ lv, rx_ld lv 0 = some (.ref 174) → rx_ld lv 1 = some (.int s5.1) → rx_ld lv 2 = some (.int s26.1) → rx_ld lv 3 = some (.int s26.2.1) → rs (rt_P sc fm) 124 F Lo 99 lv [] (hq false s26.2.2 y w) Q) (B := (fun x56 : Int32 × cS => ∀ lv, rx_ld lv 0 = some (.ref 174) → rx_ld lv 1 = some (.int s5.1) → rx_ld lv 2 = some (.int x56.1) → rs (rt_P sc fm) 124 F Lo 246 lv [] (hq false x56.2 y w) Q)) ?_ ?_ _ _ (wp_bind h) _ l0 l1 l2 l3
          · intro s26 h lv l0 l1 l2 l3
            refine rs_ildn wi_124_99 l3 ?_
            refine rs_aldn wi_124_100 l0 ?_
            refine dq_gi wi_124_101 wf_124_453 tf_174_34 ?_
            refine rs_icge (tg := 246) wi_124_104 ⟨by decide, by decide⟩ (fun q => ?_) (fun q => ?_)
            ·
              have h := wp_pos h q
              exact h _ l0 l1 l2
            ·
              have h := wp_neg h q
              refine rs_pure wi_124_107 rfl ?_
              refine rs_topi (v := 0) (by decide) ?_
              refine dl_ist wi_124_108 rfl (fun lv l4 t27 => ?_)
              have l0 := t27 _ _ (by decide) (Or.inl rfl) l0
              have l1 := t27 _ _ (by decide) (Or.inl rfl) l1
              have l2 := t27 _ _ (by decide) (Or.inl rfl) l2
              have l3 := t27 _ _ (by decide) (Or.inl rfl) l3
              refine whl_ex (A := fun s28 : Int32 × Int32 × cS => ∀ lv, rx_ld lv 0 = some (.ref 174) → rx_ld lv 1 = some (.int s5.1) → rx_ld lv 2 = some (.int s28.1) → rx_ld lv 3 = some (.int s26.2.1) → rx_ld lv 4 = some (.int s28.2.1) → rs (rt_P sc fm) 124 F Lo 110 lv [] (hq false s28.2.2 y w) Q) (B := (fun x52 : Int32 × cS => ∀ lv, rx_ld lv 0 = some (.ref 174) → rx_ld lv 1 = some (.int s5.1) → rx_ld lv 2 = some (.int x52.1) → rx_ld lv 3 = some (.int s26.2.1) → rs (rt_P sc fm) 124 F Lo 240 lv [] (hq false x52.2 y w) Q)) ?_ ?_ _ _ (wp_bind h) _ l0 l1 l2 l3 l4
              · intro s28 h lv l0 l1 l2 l3 l4
                refine rs_ild wi_124_110 l4 ?_
                refine rs_aldn wi_124_112 l0 ?_
                refine dq_gi wi_124_113 wf_124_456 tf_174_37 ?_
                refine rs_icge (tg := 240) wi_124_116 ⟨by decide, by decide⟩ (fun q => ?_) (fun q => ?_)
                ·
                  have h := wp_pos h q
                  exact h _ l0 l1 l2 l3
                ·
                  have h := wp_neg h q
                  refine rs_pure wi_124_119 rfl ?_
                  refine rs_topi (v := 1212) (by decide) ?_
                  refine rs_ildn wi_124_122 l3 ?_
                  refine rs_pure wi_124_123 rfl ?_
                  obtain ⟨v30, e31, h⟩ := wp_lt h
                  refine rs_topi e31 ?_
                  refine dl_ist wi_124_124 rfl (fun lv l5 t29 => ?_)
                  have l0 := t29 _ _ (by decide) (Or.inl rfl) l0
                  have l1 := t29 _ _ (by decide) (Or.inl rfl) l1
                  have l2 := t29 _ _ (by decide) (Or.inl rfl) l2
                  have l3 := t29 _ _ (by decide) (Or.inl rfl) l3
                  have l4 := t29 _ _ (by decide) (Or.inl rfl) l4
                  refine rs_pure wi_124_126 rfl ?_
                  refine rs_topi (v := 0) (by decide) ?_
                  refine dl_ist wi_124_127 rfl (fun lv l6 t32 => ?_)
                  have l0 := t32 _ _ (by decide) (Or.inl rfl) l0
                  have l1 := t32 _ _ (by decide) (Or.inl rfl) l1
                  have l2 := t32 _ _ (by decide) (Or.inl rfl) l2
                  have l3 := t32 _ _ (by decide) (Or.inl rfl) l3
                  have l4 := t32 _ _ (by decide) (Or.inl rfl) l4
                  have l5 := t32 _ _ (by decide) (Or.inl rfl) l5
                  refine whl_ex (A := fun s33 : Int32 × Int32 × cS => ∀ lv, rx_ld lv 0 = some (.ref 174) → rx_ld lv 1 = some (.int s5.1) → rx_ld lv 2 = some (.int s33.1) → rx_ld lv 3 = some (.int s26.2.1) → rx_ld lv 4 = some (.int s28.2.1) → rx_ld lv 5 = some (.int v30) → rx_ld lv 6 = some (.int s33.2.1) → rs (rt_P sc fm) 124 F Lo 129 lv [] (hq false s33.2.2 y w) Q) (B := (fun x48 : Int32 × cS => ∀ lv, rx_ld lv 0 = some (.ref 174) → rx_ld lv 1 = some (.int s5.1) → rx_ld lv 2 = some (.int x48.1) → rx_ld lv 3 = some (.int s26.2.1) → rx_ld lv 4 = some (.int s28.2.1) → rs (rt_P sc fm) 124 F Lo 234 lv [] (hq false x48.2 y w) Q)) ?_ ?_ _ _ (wp_bind h) _ l0 l1 l2 l3 l4 l5 l6
                  · intro s33 h lv l0 l1 l2 l3 l4 l5 l6
                    refine rs_ild wi_124_129 l6 ?_
                    refine rs_aldn wi_124_131 l0 ?_
                    refine dq_gr wi_124_132 wf_124_218 tf_174_60 ?_
                    refine rs_ild wi_124_135 l5 ?_
                    obtain ⟨g34, h⟩ := wp_gd h
                    refine dq_iald wi_124_137 t_222 g34 ?_
                    refine rs_icge (tg := 234) wi_124_138 ⟨by decide, by decide⟩ (fun q => ?_) (fun q => ?_)
                    ·
                      have h := wp_pos h q
                      exact h _ l0 l1 l2 l3 l4
                    ·
                      have h := wp_neg h q
                      refine rs_aldn wi_124_141 l0 ?_
                      refine dq_gr wi_124_142 wf_124_255 tf_174_83 ?_
                      refine rs_pure wi_124_145 rfl ?_
                      refine rs_topi (v := 12) (by decide) ?_
                      refine rs_ildn wi_124_147 l3 ?_
                      refine rs_pure wi_124_148 rfl ?_
                      refine rs_ild wi_124_149 l4 ?_
                      refine rs_pure wi_124_151 rfl ?_
                      obtain ⟨g35, h⟩ := wp_gd h
                      refine dq_zald wi_124_152 t_234 g35 ?_
                      refine rs_ifeq (tg := 234) wi_124_153 ⟨by decide, by decide⟩ (fun q => ?_) (fun q => ?_)
                      ·
                        have h := wp_pos h q
                        exact h _ l0 l1 l2 l3 l4
                      ·
                        have h := wp_neg h q
                        refine rs_aldn wi_124_156 l0 ?_
                        refine dq_gr wi_124_157 wf_124_218 tf_174_60 ?_
                        refine rs_pure wi_124_160 rfl ?_
                        refine rs_topi (v := 100) (by decide) ?_
                        refine rs_ild wi_124_162 l4 ?_
                        refine rs_pure wi_124_164 rfl ?_
                        obtain ⟨g36, h⟩ := wp_gd h
                        refine dq_iald wi_124_165 t_222 g36 ?_
                        refine rs_pure wi_124_166 rfl ?_
                        refine rs_topi (v := 20) (by decide) ?_
                        refine wp_jn (B := fun p37 : Int32 × cS => ∀ lv, rx_ld lv 0 = some (.ref 174) → rx_ld lv 1 = some (.int s5.1) → rx_ld lv 2 = some (.int p37.1) → rx_ld lv 3 = some (.int s26.2.1) → rx_ld lv 4 = some (.int s28.2.1) → rx_ld lv 5 = some (.int v30) → rx_ld lv 6 = some (.int s33.2.1) → rs (rt_P sc fm) 124 F Lo 228 lv [] (hq false p37.2 y w) Q) h (fun p37 h lv l0 l1 l2 l3 l4 l5 l6 => ?_) (fun j228 hj228 h => ?_)
                        ·
                          obtain ⟨v39, e40, h⟩ := wp_lt h
                          refine dl_inc wi_124_228 l6 rfl e40 (fun lv l6 t38 => ?_)
                          have l0 := t38 _ _ (by decide) (Or.inl rfl) l0
                          have l1 := t38 _ _ (by decide) (Or.inl rfl) l1
                          have l2 := t38 _ _ (by decide) (Or.inl rfl) l2
                          have l3 := t38 _ _ (by decide) (Or.inl rfl) l3
                          have l4 := t38 _ _ (by decide) (Or.inl rfl) l4
                          have l5 := t38 _ _ (by decide) (Or.inl rfl) l5
                          refine rs_goto (tg := 129) wi_124_231 ⟨by decide, by decide⟩ ?_
                          exact h _ l0 l1 l2 l3 l4 l5 l6
                        refine rs_iceq (tg := 228) wi_124_168 ⟨by decide, by decide⟩ (fun q => ?_) (fun q => ?_)
                        ·
                          have h := wp_pos h q
                          exact hj228 _ h _ l0 l1 l2 l3 l4 l5 l6
                        ·
                          have h := wp_neg h q
                          refine rs_aldn wi_124_171 l0 ?_
                          refine rs_pure wi_124_172 rfl ?_
                          refine rs_topi (v := 100) (by decide) ?_
                          refine rs_ild wi_124_174 l4 ?_
                          refine rs_pure wi_124_176 rfl ?_
                          refine rs_aldn wi_124_177 l0 ?_
                          refine dq_gr wi_124_178 wf_124_218 tf_174_60 ?_
                          refine rs_pure wi_124_181 rfl ?_
                          refine rs_topi (v := 100) (by decide) ?_
                          refine rs_ild wi_124_183 l4 ?_
                          refine rs_pure wi_124_185 rfl ?_
                          obtain ⟨g41, h⟩ := wp_gd h
                          refine dq_iald wi_124_186 t_222 g41 ?_
                          refine rs_aldn wi_124_187 l0 ?_
                          refine dq_gr wi_124_188 wf_124_221 tf_174_61 ?_
                          refine rs_aldn wi_124_191 l0 ?_
                          refine rs_ild wi_124_192 l5 ?_
                          refine rs_ild wi_124_194 l6 ?_
                          refine rs_V wi_124_196 wc_124_543 rfl (dq_isa tf_174_0 wa_15_392) (Nat.le_trans (by decide) hF) (ml_le wm_392 (Nat.le_trans (by decide) hLo)) rfl (sp_392 (Nat.le_trans (by decide : 0 ≤ 4 - 1) (Nat.sub_le_sub_right hF 1)) (ml_sub wm_392 (Nat.le_trans (by decide : 0 ≤ 105 - 22) (Nat.sub_le_sub_right hLo 22))) (wp_bind h) (fun v42 h => rs_back1 ?_))
                          obtain ⟨g43, h⟩ := wp_gd h
                          refine dq_lald wi_124_199 t_223 g43 ?_
                          refine rs_V wi_124_200 wc_124_551 rfl (dq_isa tf_174_0 wa_15_395) (Nat.le_trans (by decide) hF) (ml_le wm_395 (Nat.le_trans (by decide) hLo)) rfl (sp_395 hw (Nat.le_trans (by decide : 1 ≤ 4 - 1) (Nat.sub_le_sub_right hF 1)) (ml_sub wm_395 (Nat.le_trans (by decide : 22 ≤ 105 - 26) (Nat.sub_le_sub_right hLo 26))) (wp_bind h) (fun v44 h => rs_back1 ?_))
                          refine rs_ifeq (tg := 209) wi_124_203 ⟨by decide, by decide⟩ (fun q => ?_) (fun q => ?_)
                          ·
                            have h := wp_pos h q
                            refine rs_aldn wi_124_209 l0 ?_
                            refine rs_aldn wi_124_210 l0 ?_
                            refine rs_ild wi_124_211 l5 ?_
                            refine rs_ild wi_124_213 l6 ?_
                            refine rs_V wi_124_215 wc_124_543 rfl (dq_isa tf_174_0 wa_15_392) (Nat.le_trans (by decide) hF) (ml_le wm_392 (Nat.le_trans (by decide) hLo)) rfl (sp_392 (Nat.le_trans (by decide : 0 ≤ 4 - 1) (Nat.sub_le_sub_right hF 1)) (ml_sub wm_392 (Nat.le_trans (by decide : 0 ≤ 105 - 22) (Nat.sub_le_sub_right hLo 22))) (wp_bind h) (fun v45 h => rs_back1 ?_))
                            refine rs_pure wi_124_218 rfl ?_
                            refine rs_topi (v := 100) (by decide) ?_
                            refine rs_ild wi_124_220 l4 ?_
                            refine rs_pure wi_124_222 rfl ?_
                            refine rs_V wi_124_223 wc_124_754 rfl (dq_isa tf_174_0 wa_15_437) (Nat.le_trans (by decide) hF) (ml_le wm_437 (Nat.le_trans (by decide) hLo)) rfl (sp_437 hw (Nat.le_trans (by decide : 2 ≤ 4 - 1) (Nat.sub_le_sub_right hF 1)) (ml_sub wm_437 (Nat.le_trans (by decide : 47 ≤ 105 - 24) (Nat.sub_le_sub_right hLo 24))) (wp_bind h) (fun r46 h => rs_back0 ?_))
                            refine rs_pure wi_124_226 rfl ?_
                            refine rs_topi (v := 1) (by decide) ?_
                            refine dl_istn wi_124_227 rfl (fun lv l2 t47 => ?_)
                            have l0 := t47 _ _ (by decide) (Or.inl rfl) l0
                            have l1 := t47 _ _ (by decide) (Or.inl rfl) l1
                            have l3 := t47 _ _ (by decide) (Or.inl rfl) l3
                            have l4 := t47 _ _ (by decide) (Or.inl rfl) l4
                            have l5 := t47 _ _ (by decide) (Or.inl rfl) l5
                            have l6 := t47 _ _ (by decide) (Or.inl rfl) l6
                            exact hj228 _ h _ l0 l1 l2 l3 l4 l5 l6
                          ·
                            have h := wp_neg h q
                            refine rs_goto (tg := 228) wi_124_206 ⟨by decide, by decide⟩ ?_
                            exact hj228 _ h _ l0 l1 l2 l3 l4 l5 l6
                  ·
                    intro x48 h lv l0 l1 l2 l3 l4
                    obtain ⟨v50, e51, h⟩ := wp_lt h
                    refine dl_inc wi_124_234 l4 rfl e51 (fun lv l4 t49 => ?_)
                    have l0 := t49 _ _ (by decide) (Or.inl rfl) l0
                    have l1 := t49 _ _ (by decide) (Or.inl rfl) l1
                    have l2 := t49 _ _ (by decide) (Or.inl rfl) l2
                    have l3 := t49 _ _ (by decide) (Or.inl rfl) l3
                    refine rs_goto (tg := 110) wi_124_237 ⟨by decide, by decide⟩ ?_
                    exact h _ l0 l1 l2 l3 l4
              ·
                intro x52 h lv l0 l1 l2 l3
                obtain ⟨v54, e55, h⟩ := wp_lt h
                refine dl_inc wi_124_240 l3 rfl e55 (fun lv l3 t53 => ?_)
                have l0 := t53 _ _ (by decide) (Or.inl rfl) l0
                have l1 := t53 _ _ (by decide) (Or.inl rfl) l1
                have l2 := t53 _ _ (by decide) (Or.inl rfl) l2
                refine rs_goto (tg := 99) wi_124_243 ⟨by decide, by decide⟩ ?_
                exact h _ l0 l1 l2 l3
          ·
            intro x56 h lv l0 l1 l2
            refine rs_ildn wi_124_246 l1 ?_
            refine rs_ildn wi_124_247 l2 ?_
            refine wp_jn (B := fun p57 : Int32 => ∀ lv, rx_ld lv 0 = some (.ref 174) → rx_ld lv 2 = some (.int x56.1) → rs (rt_P sc fm) 124 F Lo 256 lv [.int p57, .int s5.1] (hq false x56.2 y w) Q) h (fun p57 h lv l0 l2 => ?_) (fun j256 hj256 h => ?_)
            ·
              refine rs_pure wi_124_256 rfl ?_
              obtain ⟨v59, e60, h⟩ := wp_lt h
              refine rs_topi e60 ?_
              refine dl_istn wi_124_257 rfl (fun lv l1 t58 => ?_)
              have l0 := t58 _ _ (by decide) (Or.inl rfl) l0
              have l2 := t58 _ _ (by decide) (Or.inl rfl) l2
              refine rs_goto (tg := 18) wi_124_258 ⟨by decide, by decide⟩ ?_
              exact h _ l0 l1 l2
            refine rs_ifeq (tg := 255) wi_124_248 ⟨by decide, by decide⟩ (fun q => ?_) (fun q => ?_)
            ·
              have h := wp_pos h q
              refine rs_pure wi_124_255 rfl ?_
              refine rs_topi (v := 0) (by decide) ?_
              exact hj256 _ h _ l0 l2
            ·
              have h := wp_neg h q
              refine rs_pure wi_124_251 rfl ?_
              refine rs_topi (v := 1) (by decide) ?_
              refine rs_goto (tg := 256) wi_124_252 ⟨by decide, by decide⟩ ?_
              exact hj256 _ h _ l0 l2
    ·
      intro x61 h lv l0 l1
      refine rs_aldn wi_124_261 l0 ?_
      refine rs_V wi_124_262 wc_124_637 rfl (dq_isa tf_174_0 wa_15_133) (Nat.le_trans (by decide) hF) (ml_le wm_133 (Nat.le_trans (by decide) hLo)) rfl (sp_133 hw (Nat.le_trans (by decide : 0 ≤ 4 - 1) (Nat.sub_le_sub_right hF 1)) (ml_sub wm_133 (Nat.le_trans (by decide : 0 ≤ 105 - 20) (Nat.sub_le_sub_right hLo 20))) (wp_bind h) (fun r62 h => rs_back0 ?_))
      refine rs_ildn wi_124_265 l1 ?_
      exact rs_iret wi_124_266 wr_124 rfl (hQ (x61.1, r62) h)
  ·
    have h := wp_pos h q
    refine rs_pure wi_124_12 rfl ?_
    refine rs_topi (v := (-1)) (by decide) ?_
    exact rs_iret wi_124_13 wr_124 rfl (hQ ((-1), c1) h)
end D57
