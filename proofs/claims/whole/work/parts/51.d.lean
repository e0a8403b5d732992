/-! THE CODE AS PURE PROGRAMS, 10: by wip/whole/dc.py -/
section D51
variable {sc : Nat × (Nat → Int32)} {fm : Value}
theorem wi_314_0 : ri (rt_P sc fm) 314 0 (.iload_n 0) (1) := ri_of (by decide +kernel) rfl
theorem wi_314_1 : ri (rt_P sc fm) 314 1 (.bipush 100) (3) := ri_of (by decide +kernel) rfl
theorem wi_314_10 : ri (rt_P sc fm) 314 10 (.irem) (11) := ri_of (by decide +kernel) rfl
theorem wi_314_11 : ri (rt_P sc fm) 314 11 (.iadd) (12) := ri_of (by decide +kernel) rfl
theorem wi_314_12 : ri (rt_P sc fm) 314 12 (.iconst 1) (13) := ri_of (by decide +kernel) rfl
theorem wi_314_13 : ri (rt_P sc fm) 314 13 (.isub) (14) := ri_of (by decide +kernel) rfl
theorem wi_314_14 : ri (rt_P sc fm) 314 14 (.ireturn) (15) := ri_of (by decide +kernel) rfl
theorem wi_314_3 : ri (rt_P sc fm) 314 3 (.idiv) (4) := ri_of (by decide +kernel) rfl
theorem wi_314_4 : ri (rt_P sc fm) 314 4 (.bipush 8) (6) := ri_of (by decide +kernel) rfl
theorem wi_314_6 : ri (rt_P sc fm) 314 6 (.imul) (7) := ri_of (by decide +kernel) rfl
theorem wi_314_7 : ri (rt_P sc fm) 314 7 (.iload_n 0) (8) := ri_of (by decide +kernel) rfl
theorem wi_314_8 : ri (rt_P sc fm) 314 8 (.bipush 100) (10) := ri_of (by decide +kernel) rfl
theorem wr_314 : rx_rt (rt_P sc fm) 314 = (some FieldType.int) := (by decide +kernel : rt_rt 314 = (some FieldType.int))
/-- MarkHouse$Run.fieldAt(I)I -/
def d_314 (n : Nat) (a0 : Int32) : Option (Int32) :=
  some ((((a0 / 100) * 8) + (a0 - a0 / 100 * 100)) - 1)
set_option maxRecDepth 100000 in
set_option maxHeartbeats 4000000 in
theorem sp_314 {F Lo n : Nat} {a0 : Int32} {L : List va_E} {K : Int32 → Prop} {Q : ((Option Value) ⊕ String) → List va_E → Prop} (hF : 0 ≤ F) (hLo : 0 ≤ Lo)  (h : wp (d_314 n a0) K) (hQ : ∀ r, K r → Q (.inl (some (.int r))) L) : rs (rt_P sc fm) 314 F Lo 0 [(0, .int a0)] [] L Q := by
  unfold d_314 at h
  obtain ⟨lv, elv⟩ : ∃ lv : rx_L, lv = [(0, .int a0)] := ⟨_, rfl⟩
  rw [← elv]
  have l0 : rx_ld lv 0 = some (.int a0) := by rw [elv]; rfl
  refine rs_ildn wi_314_0 l0 ?_
  refine rs_pure wi_314_1 rfl ?_
  refine rs_topi (v := 100) (by decide) ?_
  refine dl_idiv wi_314_3 (by decide) ?_
  refine rs_pure wi_314_4 rfl ?_
  refine rs_topi (v := 8) (by decide) ?_
  refine rs_pure wi_314_6 rfl ?_
  refine rs_ildn wi_314_7 l0 ?_
  refine rs_pure wi_314_8 rfl ?_
  refine rs_topi (v := 100) (by decide) ?_
  refine dl_irem wi_314_10 (by decide) ?_
  refine rs_pure wi_314_11 rfl ?_
  refine rs_pure wi_314_12 rfl ?_
  refine rs_topi (v := 1) (by decide) ?_
  refine rs_pure wi_314_13 rfl ?_
  exact rs_iret wi_314_14 wr_314 rfl (hQ ((((a0 / 100) * 8) + (a0 - a0 / 100 * 100)) - 1) h)
theorem wcn_298_50 : rx_ct (rt_P sc fm) 298 50 = none := (by decide +kernel : rt_ct 298 50 = none)
theorem wf_298_15 : rx_ft (rt_P sc fm) 298 15 = some (11, 4) := (by decide +kernel : rt_ft 298 15 = some (11, 4))
theorem wf_298_46 : rx_ft (rt_P sc fm) 298 46 = some (11, 5) := (by decide +kernel : rt_ft 298 46 = some (11, 5))
theorem wi_298_0 : ri (rt_P sc fm) 298 0 (.aload_n 0) (1) := ri_of (by decide +kernel) rfl
theorem wi_298_1 : ri (rt_P sc fm) 298 1 (.getfield 46) (4) := ri_of (by decide +kernel) rfl
theorem wi_298_10 : ri (rt_P sc fm) 298 10 (.getfield 15) (13) := ri_of (by decide +kernel) rfl
theorem wi_298_13 : ri (rt_P sc fm) 298 13 (.iconst 0) (14) := ri_of (by decide +kernel) rfl
theorem wi_298_14 : ri (rt_P sc fm) 298 14 (.iaload) (15) := ri_of (by decide +kernel) rfl
theorem wi_298_15 : ri (rt_P sc fm) 298 15 (.istore_n 1) (16) := ri_of (by decide +kernel) rfl
theorem wi_298_16 : ri (rt_P sc fm) 298 16 (.aload_n 0) (17) := ri_of (by decide +kernel) rfl
theorem wi_298_17 : ri (rt_P sc fm) 298 17 (.dup) (18) := ri_of (by decide +kernel) rfl
theorem wi_298_18 : ri (rt_P sc fm) 298 18 (.getfield 46) (21) := ri_of (by decide +kernel) rfl
theorem wi_298_21 : ri (rt_P sc fm) 298 21 (.iconst 1) (22) := ri_of (by decide +kernel) rfl
theorem wi_298_22 : ri (rt_P sc fm) 298 22 (.isub) (23) := ri_of (by decide +kernel) rfl
theorem wi_298_23 : ri (rt_P sc fm) 298 23 (.putfield 46) (26) := ri_of (by decide +kernel) rfl
theorem wi_298_26 : ri (rt_P sc fm) 298 26 (.aload_n 0) (27) := ri_of (by decide +kernel) rfl
theorem wi_298_27 : ri (rt_P sc fm) 298 27 (.getfield 15) (30) := ri_of (by decide +kernel) rfl
theorem wi_298_30 : ri (rt_P sc fm) 298 30 (.iconst 1) (31) := ri_of (by decide +kernel) rfl
theorem wi_298_31 : ri (rt_P sc fm) 298 31 (.aload_n 0) (32) := ri_of (by decide +kernel) rfl
theorem wi_298_32 : ri (rt_P sc fm) 298 32 (.getfield 15) (35) := ri_of (by decide +kernel) rfl
theorem wi_298_35 : ri (rt_P sc fm) 298 35 (.iconst 0) (36) := ri_of (by decide +kernel) rfl
theorem wi_298_36 : ri (rt_P sc fm) 298 36 (.aload_n 0) (37) := ri_of (by decide +kernel) rfl
theorem wi_298_37 : ri (rt_P sc fm) 298 37 (.getfield 46) (40) := ri_of (by decide +kernel) rfl
theorem wi_298_4 : ri (rt_P sc fm) 298 4 (.ifCond .ne 5) (7) := ri_of (by decide +kernel) rfl
theorem wi_298_40 : ri (rt_P sc fm) 298 40 (.invokestatic 50) (43) := ri_of (by decide +kernel) rfl
theorem wi_298_43 : ri (rt_P sc fm) 298 43 (.iload_n 1) (44) := ri_of (by decide +kernel) rfl
theorem wi_298_44 : ri (rt_P sc fm) 298 44 (.ireturn) (45) := ri_of (by decide +kernel) rfl
theorem wi_298_7 : ri (rt_P sc fm) 298 7 (.iconst 0) (8) := ri_of (by decide +kernel) rfl
theorem wi_298_8 : ri (rt_P sc fm) 298 8 (.ireturn) (9) := ri_of (by decide +kernel) rfl
theorem wi_298_9 : ri (rt_P sc fm) 298 9 (.aload_n 0) (10) := ri_of (by decide +kernel) rfl
theorem wp_298_46 : rx_pt (rt_P sc fm) 298 46 = some (11, 5, .int) := (by decide +kernel : rt_pt 298 46 = some (11, 5, .int))
theorem wq7_298_50 : rx_qt (rt_P sc fm) 298 50 = some 7 := (by decide +kernel : rt_qt 298 50 = some 7)
theorem wr_298 : rx_rt (rt_P sc fm) 298 = (some FieldType.int) := (by decide +kernel : rt_rt 298 = (some FieldType.int))
/-- MarkHouse$Run.takeInput()I -/
def d_298 (n : Nat)  (c : cS) : Option (Int32 × cS) :=
  if (c.1 159 5) = 0 then
    some (0, c)
  else
    if ib 0 64 then
    lt ((c.1 161 (ix 0)) : Int32) (fun v3 =>
    lt (pI c 159 5 ((c.1 159 5) - 1)) (fun c5 =>
    if cg 1 0 (c5.1 159 5) 64 64 then
    lt (pCI c5 161 161 1 0 (c5.1 159 5)) (fun c8 =>
    some (v3, c8))
    else none))
    else none
set_option maxRecDepth 100000 in
set_option maxHeartbeats 4000000 in
theorem sp_298 {F Lo n : Nat}  {c y : cS} {w : cW} {K : Int32 × cS → Prop} {Q : ((Option Value) ⊕ String) → List va_E → Prop} (hw : rOK fm w) (hF : 1 ≤ F) (hLo : 26 ≤ Lo)  (h : wp (d_298 n  c) K) (hQ : ∀ r, K r → Q (.inl (some (.int r.1))) (hq true r.2 y w)) : rs (rt_P sc fm) 298 F Lo 0 [(0, .ref 159)] [] (hq true c y w) Q := by
  unfold d_298 at h
  obtain ⟨lv, elv⟩ : ∃ lv : rx_L, lv = [(0, .ref 159)] := ⟨_, rfl⟩
  rw [← elv]
  have l0 : rx_ld lv 0 = some (.ref 159) := by rw [elv]; rfl
  refine rs_aldn wi_298_0 l0 ?_
  refine dq_gi wi_298_1 wf_298_46 tf_159_5 ?_
  refine rs_ifne (tg := 9) wi_298_4 ⟨by decide, by decide⟩ (fun q => ?_) (fun q => ?_)
  ·
    have h := wp_neg h q
    refine rs_aldn wi_298_9 l0 ?_
    refine dq_gr wi_298_10 wf_298_15 tf_159_4 ?_
    refine rs_pure wi_298_13 rfl ?_
    refine rs_topi (v := 0) (by decide) ?_
    obtain ⟨g1, h⟩ := wp_gd h
    refine dq_iald wi_298_14 t_161 g1 ?_
    obtain ⟨v3, e4, h⟩ := wp_lt h
    refine rs_topi e4 ?_
    refine dl_istn wi_298_15 rfl (fun lv l1 t2 => ?_)
    have l0 := t2 _ _ (by decide) (Or.inl rfl) l0
    refine rs_aldn wi_298_16 l0 ?_
    refine rs_pure wi_298_17 rfl ?_
    refine dq_gi wi_298_18 wf_298_46 tf_159_5 ?_
    refine rs_pure wi_298_21 rfl ?_
    refine rs_topi (v := 1) (by decide) ?_
    refine rs_pure wi_298_22 rfl ?_
    obtain ⟨c5, e6, h⟩ := wp_lt h
    refine dq_pi wi_298_23 wp_298_46 tf_159_5 rfl rfl e6 ?_
    refine rs_aldn wi_298_26 l0 ?_
    refine dq_gr wi_298_27 wf_298_15 tf_159_4 ?_
    refine rs_pure wi_298_30 rfl ?_
    refine rs_topi (v := 1) (by decide) ?_
    refine rs_aldn wi_298_31 l0 ?_
    refine dq_gr wi_298_32 wf_298_15 tf_159_4 ?_
    refine rs_pure wi_298_35 rfl ?_
    refine rs_topi (v := 0) (by decide) ?_
    refine rs_aldn wi_298_36 l0 ?_
    refine dq_gi wi_298_37 wf_298_46 tf_159_5 ?_
    obtain ⟨g7, h⟩ := wp_gd h
    obtain ⟨c8, e9, h⟩ := wp_lt h
    refine dq_cpI wi_298_40 wcn_298_50 wq7_298_50 t_161 t_161 g7 (Nat.le_trans (by decide) hF) (Nat.le_trans (by decide) hLo) e9 ?_
    refine rs_ildn wi_298_43 l1 ?_
    exact rs_iret wi_298_44 wr_298 rfl (hQ (v3, c8) h)
  ·
    have h := wp_pos h q
    refine rs_pure wi_298_7 rfl ?_
    refine rs_topi (v := 0) (by decide) ?_
    exact rs_iret wi_298_8 wr_298 rfl (hQ (0, c) h)
theorem wi_299_0 : ri (rt_P sc fm) 299 0 (.iload_n 0) (1) := ri_of (by decide +kernel) rfl
theorem wi_299_1 : ri (rt_P sc fm) 299 1 (.i2l) (2) := ri_of (by decide +kernel) rfl
theorem wi_299_10 : ri (rt_P sc fm) 299 10 (.lshl) (11) := ri_of (by decide +kernel) rfl
theorem wi_299_11 : ri (rt_P sc fm) 299 11 (.lor) (12) := ri_of (by decide +kernel) rfl
theorem wi_299_12 : ri (rt_P sc fm) 299 12 (.lreturn) (13) := ri_of (by decide +kernel) rfl
theorem wi_299_2 : ri (rt_P sc fm) 299 2 (.ldc2_w 65) (5) := ri_of (by decide +kernel) rfl
theorem wi_299_5 : ri (rt_P sc fm) 299 5 (.land) (6) := ri_of (by decide +kernel) rfl
theorem wi_299_6 : ri (rt_P sc fm) 299 6 (.iload_n 1) (7) := ri_of (by decide +kernel) rfl
theorem wi_299_7 : ri (rt_P sc fm) 299 7 (.i2l) (8) := ri_of (by decide +kernel) rfl
theorem wi_299_8 : ri (rt_P sc fm) 299 8 (.bipush 32) (10) := ri_of (by decide +kernel) rfl
theorem wk_299_65 : rx_kt (rt_P sc fm) 299 65 = some (.long (4294967295)) := (by decide +kernel : rt_kt 299 65 = some (.long (4294967295)))
theorem wr_299 : rx_rt (rt_P sc fm) 299 = (some FieldType.long) := (by decide +kernel : rt_rt 299 = (some FieldType.long))
/-- MarkHouse$Run.value(II)J -/
def d_299 (n : Nat) (a0 : Int32) (a1 : Int32) : Option (Int64) :=
  some (((a0 : Int32).toInt64 &&& 4294967295) ||| ((a1 : Int32).toInt64 <<< ((32 : Int32).toInt64 &&& 63)))
set_option maxRecDepth 100000 in
set_option maxHeartbeats 4000000 in
theorem sp_299 {F Lo n : Nat} {a0 : Int32} {a1 : Int32} {L : List va_E} {K : Int64 → Prop} {Q : ((Option Value) ⊕ String) → List va_E → Prop} (hF : 0 ≤ F) (hLo : 0 ≤ Lo)  (h : wp (d_299 n a0 a1) K) (hQ : ∀ r, K r → Q (.inl (some (.long r))) L) : rs (rt_P sc fm) 299 F Lo 0 [(0, .int a0), (1, .int a1)] [] L Q := by
  unfold d_299 at h
  obtain ⟨lv, elv⟩ : ∃ lv : rx_L, lv = [(0, .int a0), (1, .int a1)] := ⟨_, rfl⟩
  rw [← elv]
  have l0 : rx_ld lv 0 = some (.int a0) := by rw [elv]; rfl
  have l1 : rx_ld lv 1 = some (.int a1) := by rw [elv]; rfl
  refine rs_ildn wi_299_0 l0 ?_
  refine rs_pure wi_299_1 rfl ?_
  refine rs_ldcl wi_299_2 wk_299_65 ?_
  refine rs_pure wi_299_5 rfl ?_
  refine rs_ildn wi_299_6 l1 ?_
  refine rs_pure wi_299_7 rfl ?_
  refine rs_pure wi_299_8 rfl ?_
  refine rs_topi (v := 32) (by decide) ?_
  refine rs_pure wi_299_10 rfl ?_
  refine rs_pure wi_299_11 rfl ?_
  exact rs_lret wi_299_12 wr_299 (hQ (((a0 : Int32).toInt64 &&& 4294967295) ||| ((a1 : Int32).toInt64 <<< ((32 : Int32).toInt64 &&& 63))) h)
theorem wa_11_298 : rz_cn 11 (rx_yn (rt_P sc fm) 298).cls = true := (by decide +kernel : rz_cn 11 (rt_yn 298).cls = true)
theorem wa_11_315 : rz_cn 11 (rx_yn (rt_P sc fm) 315).cls = true := (by decide +kernel : rz_cn 11 (rt_yn 315).cls = true)
theorem wc_313_174 : rx_ct (rt_P sc fm) 313 174 = some (0, 305, 3) := (by decide +kernel : rt_ct 313 174 = some (0, 305, 3))
theorem wc_313_213 : rx_ct (rt_P sc fm) 313 213 = some (1, 299, 2) := (by decide +kernel : rt_ct 313 213 = some (1, 299, 2))
theorem wc_313_217 : rx_ct (rt_P sc fm) 313 217 = some (0, 298, 0) := (by decide +kernel : rt_ct 313 217 = some (0, 298, 0))
theorem wc_313_221 : rx_ct (rt_P sc fm) 313 221 = some (1, 314, 1) := (by decide +kernel : rt_ct 313 221 = some (1, 314, 1))
theorem wc_313_224 : rx_ct (rt_P sc fm) 313 224 = some (0, 315, 3) := (by decide +kernel : rt_ct 313 224 = some (0, 315, 3))
theorem wc_313_92 : rx_ct (rt_P sc fm) 313 92 = some (11, 356, 3) := (by decide +kernel : rt_ct 313 92 = some (11, 356, 3))
theorem wf_313_128 : rx_ft (rt_P sc fm) 313 128 = some (2, 8) := (by decide +kernel : rt_ft 313 128 = some (2, 8))
theorem wf_313_18 : rx_ft (rt_P sc fm) 313 18 = some (11, 6) := (by decide +kernel : rt_ft 313 18 = some (11, 6))
theorem wf_313_198 : rx_ft (rt_P sc fm) 313 198 = some (2, 12) := (by decide +kernel : rt_ft 313 198 = some (2, 12))
theorem wf_313_201 : rx_ft (rt_P sc fm) 313 201 = some (2, 10) := (by decide +kernel : rt_ft 313 201 = some (2, 10))
theorem wf_313_210 : rx_ft (rt_P sc fm) 313 210 = some (2, 9) := (by decide +kernel : rt_ft 313 210 = some (2, 9))
theorem wf_313_27 : rx_ft (rt_P sc fm) 313 27 = some (11, 9) := (by decide +kernel : rt_ft 313 27 = some (11, 9))
theorem wf_313_31 : rx_ft (rt_P sc fm) 313 31 = some (11, 11) := (by decide +kernel : rt_ft 313 31 = some (11, 11))
theorem wf_313_38 : rx_ft (rt_P sc fm) 313 38 = some (11, 1) := (by decide +kernel : rt_ft 313 38 = some (11, 1))
theorem wi_313_0 : ri (rt_P sc fm) 313 0 (.iload_n 1) (1) := ri_of (by decide +kernel) rfl
theorem wi_313_1 : ri (rt_P sc fm) 313 1 (.bipush 8) (3) := ri_of (by decide +kernel) rfl
theorem wi_313_11 : ri (rt_P sc fm) 313 11 (.iload_n 2) (12) := ri_of (by decide +kernel) rfl
theorem wi_313_116 : ri (rt_P sc fm) 313 116 (.aload_n 0) (117) := ri_of (by decide +kernel) rfl
theorem wi_313_117 : ri (rt_P sc fm) 313 117 (.getfield 27) (120) := ri_of (by decide +kernel) rfl
theorem wi_313_12 : ri (rt_P sc fm) 313 12 (.iaload) (13) := ri_of (by decide +kernel) rfl
theorem wi_313_120 : ri (rt_P sc fm) 313 120 (.iload_n 3) (121) := ri_of (by decide +kernel) rfl
theorem wi_313_121 : ri (rt_P sc fm) 313 121 (.iload 4) (123) := ri_of (by decide +kernel) rfl
theorem wi_313_123 : ri (rt_P sc fm) 313 123 (.aload_n 0) (124) := ri_of (by decide +kernel) rfl
theorem wi_313_124 : ri (rt_P sc fm) 313 124 (.getfield 38) (127) := ri_of (by decide +kernel) rfl
theorem wi_313_127 : ri (rt_P sc fm) 313 127 (.getfield 201) (130) := ri_of (by decide +kernel) rfl
theorem wi_313_13 : ri (rt_P sc fm) 313 13 (.iadd) (14) := ri_of (by decide +kernel) rfl
theorem wi_313_130 : ri (rt_P sc fm) 313 130 (.iload_n 2) (131) := ri_of (by decide +kernel) rfl
theorem wi_313_131 : ri (rt_P sc fm) 313 131 (.iaload) (132) := ri_of (by decide +kernel) rfl
theorem wi_313_132 : ri (rt_P sc fm) 313 132 (.invokestatic 213) (135) := ri_of (by decide +kernel) rfl
theorem wi_313_135 : ri (rt_P sc fm) 313 135 (.lastore) (136) := ri_of (by decide +kernel) rfl
theorem wi_313_136 : ri (rt_P sc fm) 313 136 (.goto 254) (139) := ri_of (by decide +kernel) rfl
theorem wi_313_139 : ri (rt_P sc fm) 313 139 (.aload_n 0) (140) := ri_of (by decide +kernel) rfl
theorem wi_313_14 : ri (rt_P sc fm) 313 14 (.istore_n 3) (15) := ri_of (by decide +kernel) rfl
theorem wi_313_140 : ri (rt_P sc fm) 313 140 (.getfield 27) (143) := ri_of (by decide +kernel) rfl
theorem wi_313_143 : ri (rt_P sc fm) 313 143 (.iload_n 3) (144) := ri_of (by decide +kernel) rfl
theorem wi_313_144 : ri (rt_P sc fm) 313 144 (.aload_n 0) (145) := ri_of (by decide +kernel) rfl
theorem wi_313_145 : ri (rt_P sc fm) 313 145 (.invokevirtual 217) (148) := ri_of (by decide +kernel) rfl
theorem wi_313_148 : ri (rt_P sc fm) 313 148 (.aload_n 0) (149) := ri_of (by decide +kernel) rfl
theorem wi_313_149 : ri (rt_P sc fm) 313 149 (.getfield 38) (152) := ri_of (by decide +kernel) rfl
theorem wi_313_15 : ri (rt_P sc fm) 313 15 (.aload_n 0) (16) := ri_of (by decide +kernel) rfl
theorem wi_313_152 : ri (rt_P sc fm) 313 152 (.getfield 201) (155) := ri_of (by decide +kernel) rfl
theorem wi_313_155 : ri (rt_P sc fm) 313 155 (.iload_n 2) (156) := ri_of (by decide +kernel) rfl
theorem wi_313_156 : ri (rt_P sc fm) 313 156 (.iaload) (157) := ri_of (by decide +kernel) rfl
theorem wi_313_157 : ri (rt_P sc fm) 313 157 (.invokestatic 213) (160) := ri_of (by decide +kernel) rfl
theorem wi_313_16 : ri (rt_P sc fm) 313 16 (.getfield 38) (19) := ri_of (by decide +kernel) rfl
theorem wi_313_160 : ri (rt_P sc fm) 313 160 (.lastore) (161) := ri_of (by decide +kernel) rfl
theorem wi_313_161 : ri (rt_P sc fm) 313 161 (.goto 229) (164) := ri_of (by decide +kernel) rfl
theorem wi_313_164 : ri (rt_P sc fm) 313 164 (.aload_n 0) (165) := ri_of (by decide +kernel) rfl
theorem wi_313_165 : ri (rt_P sc fm) 313 165 (.getfield 27) (168) := ri_of (by decide +kernel) rfl
theorem wi_313_168 : ri (rt_P sc fm) 313 168 (.iload_n 3) (169) := ri_of (by decide +kernel) rfl
theorem wi_313_169 : ri (rt_P sc fm) 313 169 (.aload_n 0) (170) := ri_of (by decide +kernel) rfl
theorem wi_313_170 : ri (rt_P sc fm) 313 170 (.getfield 27) (173) := ri_of (by decide +kernel) rfl
theorem wi_313_173 : ri (rt_P sc fm) 313 173 (.iload_n 1) (174) := ri_of (by decide +kernel) rfl
theorem wi_313_174 : ri (rt_P sc fm) 313 174 (.iload 4) (176) := ri_of (by decide +kernel) rfl
theorem wi_313_176 : ri (rt_P sc fm) 313 176 (.iadd) (177) := ri_of (by decide +kernel) rfl
theorem wi_313_177 : ri (rt_P sc fm) 313 177 (.laload) (178) := ri_of (by decide +kernel) rfl
theorem wi_313_178 : ri (rt_P sc fm) 313 178 (.lastore) (179) := ri_of (by decide +kernel) rfl
theorem wi_313_179 : ri (rt_P sc fm) 313 179 (.goto 211) (182) := ri_of (by decide +kernel) rfl
theorem wi_313_182 : ri (rt_P sc fm) 313 182 (.aload_n 0) (183) := ri_of (by decide +kernel) rfl
theorem wi_313_183 : ri (rt_P sc fm) 313 183 (.getfield 27) (186) := ri_of (by decide +kernel) rfl
theorem wi_313_186 : ri (rt_P sc fm) 313 186 (.iload_n 1) (187) := ri_of (by decide +kernel) rfl
theorem wi_313_187 : ri (rt_P sc fm) 313 187 (.iload 4) (189) := ri_of (by decide +kernel) rfl
theorem wi_313_189 : ri (rt_P sc fm) 313 189 (.iadd) (190) := ri_of (by decide +kernel) rfl
theorem wi_313_19 : ri (rt_P sc fm) 313 19 (.getfield 210) (22) := ri_of (by decide +kernel) rfl
theorem wi_313_190 : ri (rt_P sc fm) 313 190 (.aload_n 0) (191) := ri_of (by decide +kernel) rfl
theorem wi_313_191 : ri (rt_P sc fm) 313 191 (.getfield 27) (194) := ri_of (by decide +kernel) rfl
theorem wi_313_194 : ri (rt_P sc fm) 313 194 (.iload_n 3) (195) := ri_of (by decide +kernel) rfl
theorem wi_313_195 : ri (rt_P sc fm) 313 195 (.iconst 1) (196) := ri_of (by decide +kernel) rfl
theorem wi_313_196 : ri (rt_P sc fm) 313 196 (.isub) (197) := ri_of (by decide +kernel) rfl
theorem wi_313_197 : ri (rt_P sc fm) 313 197 (.laload) (198) := ri_of (by decide +kernel) rfl
theorem wi_313_198 : ri (rt_P sc fm) 313 198 (.lastore) (199) := ri_of (by decide +kernel) rfl
theorem wi_313_199 : ri (rt_P sc fm) 313 199 (.goto 191) (202) := ri_of (by decide +kernel) rfl
theorem wi_313_202 : ri (rt_P sc fm) 313 202 (.aload_n 0) (203) := ri_of (by decide +kernel) rfl
theorem wi_313_203 : ri (rt_P sc fm) 313 203 (.getfield 27) (206) := ri_of (by decide +kernel) rfl
theorem wi_313_206 : ri (rt_P sc fm) 313 206 (.iload_n 3) (207) := ri_of (by decide +kernel) rfl
theorem wi_313_207 : ri (rt_P sc fm) 313 207 (.aload_n 0) (208) := ri_of (by decide +kernel) rfl
theorem wi_313_208 : ri (rt_P sc fm) 313 208 (.getfield 31) (211) := ri_of (by decide +kernel) rfl
theorem wi_313_211 : ri (rt_P sc fm) 313 211 (.aload_n 0) (212) := ri_of (by decide +kernel) rfl
theorem wi_313_212 : ri (rt_P sc fm) 313 212 (.getfield 38) (215) := ri_of (by decide +kernel) rfl
theorem wi_313_215 : ri (rt_P sc fm) 313 215 (.getfield 201) (218) := ri_of (by decide +kernel) rfl
theorem wi_313_218 : ri (rt_P sc fm) 313 218 (.iload_n 2) (219) := ri_of (by decide +kernel) rfl
theorem wi_313_219 : ri (rt_P sc fm) 313 219 (.iaload) (220) := ri_of (by decide +kernel) rfl
theorem wi_313_22 : ri (rt_P sc fm) 313 22 (.iload_n 2) (23) := ri_of (by decide +kernel) rfl
theorem wi_313_220 : ri (rt_P sc fm) 313 220 (.invokestatic 221) (223) := ri_of (by decide +kernel) rfl
theorem wi_313_223 : ri (rt_P sc fm) 313 223 (.laload) (224) := ri_of (by decide +kernel) rfl
theorem wi_313_224 : ri (rt_P sc fm) 313 224 (.lastore) (225) := ri_of (by decide +kernel) rfl
theorem wi_313_225 : ri (rt_P sc fm) 313 225 (.goto 165) (228) := ri_of (by decide +kernel) rfl
theorem wi_313_228 : ri (rt_P sc fm) 313 228 (.aload_n 0) (229) := ri_of (by decide +kernel) rfl
theorem wi_313_229 : ri (rt_P sc fm) 313 229 (.getfield 31) (232) := ri_of (by decide +kernel) rfl
theorem wi_313_23 : ri (rt_P sc fm) 313 23 (.iaload) (24) := ri_of (by decide +kernel) rfl
theorem wi_313_232 : ri (rt_P sc fm) 313 232 (.aload_n 0) (233) := ri_of (by decide +kernel) rfl
theorem wi_313_233 : ri (rt_P sc fm) 313 233 (.getfield 38) (236) := ri_of (by decide +kernel) rfl
theorem wi_313_236 : ri (rt_P sc fm) 313 236 (.getfield 201) (239) := ri_of (by decide +kernel) rfl
theorem wi_313_239 : ri (rt_P sc fm) 313 239 (.iload_n 2) (240) := ri_of (by decide +kernel) rfl
theorem wi_313_24 : ri (rt_P sc fm) 313 24 (.istore 4) (26) := ri_of (by decide +kernel) rfl
theorem wi_313_240 : ri (rt_P sc fm) 313 240 (.iaload) (241) := ri_of (by decide +kernel) rfl
theorem wi_313_241 : ri (rt_P sc fm) 313 241 (.invokestatic 221) (244) := ri_of (by decide +kernel) rfl
theorem wi_313_244 : ri (rt_P sc fm) 313 244 (.aload_n 0) (245) := ri_of (by decide +kernel) rfl
theorem wi_313_245 : ri (rt_P sc fm) 313 245 (.getfield 27) (248) := ri_of (by decide +kernel) rfl
theorem wi_313_248 : ri (rt_P sc fm) 313 248 (.iload_n 3) (249) := ri_of (by decide +kernel) rfl
theorem wi_313_249 : ri (rt_P sc fm) 313 249 (.iconst 1) (250) := ri_of (by decide +kernel) rfl
theorem wi_313_250 : ri (rt_P sc fm) 313 250 (.isub) (251) := ri_of (by decide +kernel) rfl
theorem wi_313_251 : ri (rt_P sc fm) 313 251 (.laload) (252) := ri_of (by decide +kernel) rfl
theorem wi_313_252 : ri (rt_P sc fm) 313 252 (.lastore) (253) := ri_of (by decide +kernel) rfl
theorem wi_313_253 : ri (rt_P sc fm) 313 253 (.goto 137) (256) := ri_of (by decide +kernel) rfl
theorem wi_313_256 : ri (rt_P sc fm) 313 256 (.aload_n 0) (257) := ri_of (by decide +kernel) rfl
theorem wi_313_257 : ri (rt_P sc fm) 313 257 (.getfield 27) (260) := ri_of (by decide +kernel) rfl
theorem wi_313_26 : ri (rt_P sc fm) 313 26 (.aload_n 0) (27) := ri_of (by decide +kernel) rfl
theorem wi_313_260 : ri (rt_P sc fm) 313 260 (.iload_n 3) (261) := ri_of (by decide +kernel) rfl
theorem wi_313_261 : ri (rt_P sc fm) 313 261 (.iconst 2) (262) := ri_of (by decide +kernel) rfl
theorem wi_313_262 : ri (rt_P sc fm) 313 262 (.isub) (263) := ri_of (by decide +kernel) rfl
theorem wi_313_263 : ri (rt_P sc fm) 313 263 (.aload_n 0) (264) := ri_of (by decide +kernel) rfl
theorem wi_313_264 : ri (rt_P sc fm) 313 264 (.aload_n 0) (265) := ri_of (by decide +kernel) rfl
theorem wi_313_265 : ri (rt_P sc fm) 313 265 (.getfield 38) (268) := ri_of (by decide +kernel) rfl
theorem wi_313_268 : ri (rt_P sc fm) 313 268 (.getfield 128) (271) := ri_of (by decide +kernel) rfl
theorem wi_313_27 : ri (rt_P sc fm) 313 27 (.getfield 38) (30) := ri_of (by decide +kernel) rfl
theorem wi_313_271 : ri (rt_P sc fm) 313 271 (.iload_n 2) (272) := ri_of (by decide +kernel) rfl
theorem wi_313_272 : ri (rt_P sc fm) 313 272 (.iaload) (273) := ri_of (by decide +kernel) rfl
theorem wi_313_273 : ri (rt_P sc fm) 313 273 (.aload_n 0) (274) := ri_of (by decide +kernel) rfl
theorem wi_313_274 : ri (rt_P sc fm) 313 274 (.getfield 27) (277) := ri_of (by decide +kernel) rfl
theorem wi_313_277 : ri (rt_P sc fm) 313 277 (.iload_n 3) (278) := ri_of (by decide +kernel) rfl
theorem wi_313_278 : ri (rt_P sc fm) 313 278 (.iconst 2) (279) := ri_of (by decide +kernel) rfl
theorem wi_313_279 : ri (rt_P sc fm) 313 279 (.isub) (280) := ri_of (by decide +kernel) rfl
theorem wi_313_280 : ri (rt_P sc fm) 313 280 (.laload) (281) := ri_of (by decide +kernel) rfl
theorem wi_313_281 : ri (rt_P sc fm) 313 281 (.aload_n 0) (282) := ri_of (by decide +kernel) rfl
theorem wi_313_282 : ri (rt_P sc fm) 313 282 (.getfield 27) (285) := ri_of (by decide +kernel) rfl
theorem wi_313_285 : ri (rt_P sc fm) 313 285 (.iload_n 3) (286) := ri_of (by decide +kernel) rfl
theorem wi_313_286 : ri (rt_P sc fm) 313 286 (.iconst 1) (287) := ri_of (by decide +kernel) rfl
theorem wi_313_287 : ri (rt_P sc fm) 313 287 (.isub) (288) := ri_of (by decide +kernel) rfl
theorem wi_313_288 : ri (rt_P sc fm) 313 288 (.laload) (289) := ri_of (by decide +kernel) rfl
theorem wi_313_289 : ri (rt_P sc fm) 313 289 (.invokevirtual 224) (292) := ri_of (by decide +kernel) rfl
theorem wi_313_292 : ri (rt_P sc fm) 313 292 (.lastore) (293) := ri_of (by decide +kernel) rfl
theorem wi_313_293 : ri (rt_P sc fm) 313 293 (.goto 97) (296) := ri_of (by decide +kernel) rfl
theorem wi_313_296 : ri (rt_P sc fm) 313 296 (.aload_n 0) (297) := ri_of (by decide +kernel) rfl
theorem wi_313_297 : ri (rt_P sc fm) 313 297 (.getfield 27) (300) := ri_of (by decide +kernel) rfl
theorem wi_313_3 : ri (rt_P sc fm) 313 3 (.iadd) (4) := ri_of (by decide +kernel) rfl
theorem wi_313_30 : ri (rt_P sc fm) 313 30 (.getfield 128) (33) := ri_of (by decide +kernel) rfl
theorem wi_313_300 : ri (rt_P sc fm) 313 300 (.iload_n 3) (301) := ri_of (by decide +kernel) rfl
theorem wi_313_301 : ri (rt_P sc fm) 313 301 (.aload_n 0) (302) := ri_of (by decide +kernel) rfl
theorem wi_313_302 : ri (rt_P sc fm) 313 302 (.getfield 27) (305) := ri_of (by decide +kernel) rfl
theorem wi_313_305 : ri (rt_P sc fm) 313 305 (.iload_n 3) (306) := ri_of (by decide +kernel) rfl
theorem wi_313_306 : ri (rt_P sc fm) 313 306 (.iconst 1) (307) := ri_of (by decide +kernel) rfl
theorem wi_313_307 : ri (rt_P sc fm) 313 307 (.isub) (308) := ri_of (by decide +kernel) rfl
theorem wi_313_308 : ri (rt_P sc fm) 313 308 (.laload) (309) := ri_of (by decide +kernel) rfl
theorem wi_313_309 : ri (rt_P sc fm) 313 309 (.lastore) (310) := ri_of (by decide +kernel) rfl
theorem wi_313_310 : ri (rt_P sc fm) 313 310 (.goto 80) (313) := ri_of (by decide +kernel) rfl
theorem wi_313_313 : ri (rt_P sc fm) 313 313 (.aload_n 0) (314) := ri_of (by decide +kernel) rfl
theorem wi_313_314 : ri (rt_P sc fm) 313 314 (.getfield 18) (317) := ri_of (by decide +kernel) rfl
theorem wi_313_317 : ri (rt_P sc fm) 313 317 (.bipush 10) (319) := ri_of (by decide +kernel) rfl
theorem wi_313_319 : ri (rt_P sc fm) 313 319 (.dup2) (320) := ri_of (by decide +kernel) rfl
theorem wi_313_320 : ri (rt_P sc fm) 313 320 (.iaload) (321) := ri_of (by decide +kernel) rfl
theorem wi_313_321 : ri (rt_P sc fm) 313 321 (.aload_n 0) (322) := ri_of (by decide +kernel) rfl
theorem wi_313_322 : ri (rt_P sc fm) 313 322 (.aload_n 0) (323) := ri_of (by decide +kernel) rfl
theorem wi_313_323 : ri (rt_P sc fm) 313 323 (.getfield 27) (326) := ri_of (by decide +kernel) rfl
theorem wi_313_326 : ri (rt_P sc fm) 313 326 (.iload_n 3) (327) := ri_of (by decide +kernel) rfl
theorem wi_313_327 : ri (rt_P sc fm) 313 327 (.iconst 1) (328) := ri_of (by decide +kernel) rfl
theorem wi_313_328 : ri (rt_P sc fm) 313 328 (.isub) (329) := ri_of (by decide +kernel) rfl
theorem wi_313_329 : ri (rt_P sc fm) 313 329 (.laload) (330) := ri_of (by decide +kernel) rfl
theorem wi_313_33 : ri (rt_P sc fm) 313 33 (.iload_n 2) (34) := ri_of (by decide +kernel) rfl
theorem wi_313_330 : ri (rt_P sc fm) 313 330 (.aload_n 0) (331) := ri_of (by decide +kernel) rfl
theorem wi_313_331 : ri (rt_P sc fm) 313 331 (.getfield 38) (334) := ri_of (by decide +kernel) rfl
theorem wi_313_334 : ri (rt_P sc fm) 313 334 (.getfield 201) (337) := ri_of (by decide +kernel) rfl
theorem wi_313_337 : ri (rt_P sc fm) 313 337 (.iload_n 2) (338) := ri_of (by decide +kernel) rfl
theorem wi_313_338 : ri (rt_P sc fm) 313 338 (.iaload) (339) := ri_of (by decide +kernel) rfl
theorem wi_313_339 : ri (rt_P sc fm) 313 339 (.iload 4) (341) := ri_of (by decide +kernel) rfl
theorem wi_313_34 : ri (rt_P sc fm) 313 34 (.iaload) (35) := ri_of (by decide +kernel) rfl
theorem wi_313_341 : ri (rt_P sc fm) 313 341 (.invokevirtual 174) (344) := ri_of (by decide +kernel) rfl
theorem wi_313_344 : ri (rt_P sc fm) 313 344 (.ifCond .eq 7) (347) := ri_of (by decide +kernel) rfl
theorem wi_313_347 : ri (rt_P sc fm) 313 347 (.iconst 0) (348) := ri_of (by decide +kernel) rfl
theorem wi_313_348 : ri (rt_P sc fm) 313 348 (.goto 4) (351) := ri_of (by decide +kernel) rfl
theorem wi_313_35 : ri (rt_P sc fm) 313 35 (.tableswitch 355 214 230 #[81, 104, 129, 147, 167, 193, 355, 355, 221, 221, 221, 261, 355, 355, 355, 355, 278]) (35 + rx_len (.tableswitch 355 214 230 #[81, 104, 129, 147, 167, 193, 355, 355, 221, 221, 221, 261, 355, 355, 355, 355, 278])) := ri_of (by decide +kernel) rfl
theorem wi_313_351 : ri (rt_P sc fm) 313 351 (.iconst 1) (352) := ri_of (by decide +kernel) rfl
theorem wi_313_352 : ri (rt_P sc fm) 313 352 (.iadd) (353) := ri_of (by decide +kernel) rfl
theorem wi_313_353 : ri (rt_P sc fm) 313 353 (.iastore) (354) := ri_of (by decide +kernel) rfl
theorem wi_313_354 : ri (rt_P sc fm) 313 354 (.aload_n 0) (355) := ri_of (by decide +kernel) rfl
theorem wi_313_355 : ri (rt_P sc fm) 313 355 (.getfield 27) (358) := ri_of (by decide +kernel) rfl
theorem wi_313_358 : ri (rt_P sc fm) 313 358 (.iload_n 3) (359) := ri_of (by decide +kernel) rfl
theorem wi_313_359 : ri (rt_P sc fm) 313 359 (.iconst 1) (360) := ri_of (by decide +kernel) rfl
theorem wi_313_360 : ri (rt_P sc fm) 313 360 (.isub) (361) := ri_of (by decide +kernel) rfl
theorem wi_313_361 : ri (rt_P sc fm) 313 361 (.aload_n 0) (362) := ri_of (by decide +kernel) rfl
theorem wi_313_362 : ri (rt_P sc fm) 313 362 (.getfield 27) (365) := ri_of (by decide +kernel) rfl
theorem wi_313_365 : ri (rt_P sc fm) 313 365 (.iload_n 3) (366) := ri_of (by decide +kernel) rfl
theorem wi_313_366 : ri (rt_P sc fm) 313 366 (.iconst 1) (367) := ri_of (by decide +kernel) rfl
theorem wi_313_367 : ri (rt_P sc fm) 313 367 (.isub) (368) := ri_of (by decide +kernel) rfl
theorem wi_313_368 : ri (rt_P sc fm) 313 368 (.laload) (369) := ri_of (by decide +kernel) rfl
theorem wi_313_369 : ri (rt_P sc fm) 313 369 (.bipush 8) (371) := ri_of (by decide +kernel) rfl
theorem wi_313_371 : ri (rt_P sc fm) 313 371 (.aload_n 0) (372) := ri_of (by decide +kernel) rfl
theorem wi_313_372 : ri (rt_P sc fm) 313 372 (.getfield 38) (375) := ri_of (by decide +kernel) rfl
theorem wi_313_375 : ri (rt_P sc fm) 313 375 (.getfield 201) (378) := ri_of (by decide +kernel) rfl
theorem wi_313_378 : ri (rt_P sc fm) 313 378 (.iload_n 2) (379) := ri_of (by decide +kernel) rfl
theorem wi_313_379 : ri (rt_P sc fm) 313 379 (.iaload) (380) := ri_of (by decide +kernel) rfl
theorem wi_313_380 : ri (rt_P sc fm) 313 380 (.iadd) (381) := ri_of (by decide +kernel) rfl
theorem wi_313_381 : ri (rt_P sc fm) 313 381 (.iload 4) (383) := ri_of (by decide +kernel) rfl
theorem wi_313_383 : ri (rt_P sc fm) 313 383 (.invokestatic 92) (386) := ri_of (by decide +kernel) rfl
theorem wi_313_386 : ri (rt_P sc fm) 313 386 (.lastore) (387) := ri_of (by decide +kernel) rfl
theorem wi_313_387 : ri (rt_P sc fm) 313 387 (.goto 3) (390) := ri_of (by decide +kernel) rfl
theorem wi_313_390 : ri (rt_P sc fm) 313 390 (.return_) (391) := ri_of (by decide +kernel) rfl
theorem wi_313_4 : ri (rt_P sc fm) 313 4 (.aload_n 0) (5) := ri_of (by decide +kernel) rfl
theorem wi_313_5 : ri (rt_P sc fm) 313 5 (.getfield 38) (8) := ri_of (by decide +kernel) rfl
theorem wi_313_8 : ri (rt_P sc fm) 313 8 (.getfield 198) (11) := ri_of (by decide +kernel) rfl
theorem wm_298 : rx_ml (rt_P sc fm) 298 = 2 := (by decide +kernel : rt_ml 298 = 2)
theorem wm_299 : rx_ml (rt_P sc fm) 299 = 2 := (by decide +kernel : rt_ml 299 = 2)
theorem wm_314 : rx_ml (rt_P sc fm) 314 = 1 := (by decide +kernel : rt_ml 314 = 1)
theorem wm_315 : rx_ml (rt_P sc fm) 315 = 13 := (by decide +kernel : rt_ml 315 = 13)
theorem wr_313 : rx_rt (rt_P sc fm) 313 = none := (by decide +kernel : rt_rt 313 = none)
/-- MarkHouse$Run.doPlain(II)V -/
def d_313 (n : Nat) (a1 : Int32) (a2 : Int32) (c : cS) : Option (cS) :=
  if ib a2 1024 then
  lt (((a1 + 8) + (c.1 125 (ix a2))) : Int32) (fun v3 =>
  if ib a2 1024 then
  lt ((c.1 122 (ix a2)) : Int32) (fun v7 =>
  if ib a2 1024 then
  jn (fun p10 : cS =>
    some p10)
  (fun j390 =>
  jn (fun p11 : Unit =>
    if ib a2 1024 then
    if ib (v3 - 2) 192 then
    if ib (v3 - 1) 192 then
    Option.bind (d_315 n (c.1 121 (ix a2)) (c.2 165 (ix (v3 - 2))) (c.2 165 (ix (v3 - 1))) c) (fun v15 =>
    if ib (v3 - 2) 192 then
    lt (pL c 165 (ix (v3 - 2)) v15) (fun c17 =>
    j390 c17)
    else none)
    else none
    else none
    else none)
  (fun j256 =>
  if (c.1 121 (ix a2)) = 214 then
    if ib a2 1024 then
    Option.bind (d_299 n v7 (c.1 123 (ix a2))) (fun v21 =>
    if ib v3 192 then
    lt (pL c 165 (ix v3) v21) (fun c23 =>
    j390 c23)
    else none)
    else none
  else
  if (c.1 121 (ix a2)) = 215 then
    Option.bind (d_298 n c) (fun r26 =>
    if ib a2 1024 then
    Option.bind (d_299 n r26.1 (r26.2.1 123 (ix a2))) (fun v28 =>
    if ib v3 192 then
    lt (pL r26.2 165 (ix v3) v28) (fun c30 =>
    j390 c30)
    else none)
    else none)
  else
  if (c.1 121 (ix a2)) = 216 then
    if ib (a1 + v7) 192 then
    if ib v3 192 then
    lt (pL c 165 (ix v3) (c.2 165 (ix (a1 + v7)))) (fun c35 =>
    j390 c35)
    else none
    else none
  else
  if (c.1 121 (ix a2)) = 217 then
    if ib (v3 - 1) 192 then
    if ib (a1 + v7) 192 then
    lt (pL c 165 (ix (a1 + v7)) (c.2 165 (ix (v3 - 1)))) (fun c40 =>
    j390 c40)
    else none
    else none
  else
  if (c.1 121 (ix a2)) = 218 then
    if ib a2 1024 then
    Option.bind (d_314 n (c.1 123 (ix a2))) (fun v44 =>
    if ib v44 96 then
    if ib v3 192 then
    lt (pL c 165 (ix v3) (c.2 166 (ix v44))) (fun c47 =>
    j390 c47)
    else none
    else none)
    else none
  else
  if (c.1 121 (ix a2)) = 219 then
    if ib a2 1024 then
    Option.bind (d_314 n (c.1 123 (ix a2))) (fun v51 =>
    if ib (v3 - 1) 192 then
    if ib v51 96 then
    lt (pL c 166 (ix v51) (c.2 165 (ix (v3 - 1)))) (fun c54 =>
    j390 c54)
    else none
    else none)
    else none
  else
  if (c.1 121 (ix a2)) = 220 then
    j390 c
  else
  if (c.1 121 (ix a2)) = 221 then
    j390 c
  else
  if (c.1 121 (ix a2)) = 222 then
    j256 ()
  else
  if (c.1 121 (ix a2)) = 223 then
    j256 ()
  else
  if (c.1 121 (ix a2)) = 224 then
    j256 ()
  else
  if (c.1 121 (ix a2)) = 225 then
    if ib (v3 - 1) 192 then
    if ib v3 192 then
    lt (pL c 165 (ix v3) (c.2 165 (ix (v3 - 1)))) (fun c64 =>
    j390 c64)
    else none
    else none
  else
  if (c.1 121 (ix a2)) = 226 then
    j390 c
  else
  if (c.1 121 (ix a2)) = 227 then
    j390 c
  else
  if (c.1 121 (ix a2)) = 228 then
    j390 c
  else
  if (c.1 121 (ix a2)) = 229 then
    j390 c
  else
  if (c.1 121 (ix a2)) = 230 then
    if ib 10 12 then
    if ib (v3 - 1) 192 then
    if ib a2 1024 then
    Option.bind (d_305 n (c.2 165 (ix (v3 - 1))) (c.1 123 (ix a2)) v7 c) (fun v74 =>
    jn (fun p75 : Int32 =>
      if ib 10 12 then
      lt (pI c 162 (ix 10) ((c.1 162 (ix 10)) + p75)) (fun c77 =>
      if ib (v3 - 1) 192 then
      if ib a2 1024 then
      Option.bind (d_356 n (c77.2 165 (ix (v3 - 1))) (8 + (c77.1 123 (ix a2))) v7) (fun v81 =>
      if ib (v3 - 1) 192 then
      lt (pL c77 165 (ix (v3 - 1)) v81) (fun c83 =>
      j390 c83)
      else none)
      else none
      else none)
      else none)
    (fun j352 =>
    if v74 = 0 then
      j352 1
    else
      j352 0))
    else none
    else none
    else none
  else
  j390 c))
  else none)
  else none)
  else none
set_option maxRecDepth 100000 in
set_option maxHeartbeats 4000000 in
theorem sp_313 {F Lo n : Nat} {a1 : Int32} {a2 : Int32} {c y : cS} {w : cW} {K : cS → Prop} {Q : ((Option Value) ⊕ String) → List va_E → Prop} (hw : rOK fm w) (hF : 2 ≤ F) (hLo : 55 ≤ Lo)  (h : wp (d_313 n a1 a2 c) K) (hQ : ∀ r, K r → Q (.inl none) (hq true r y w)) : rs (rt_P sc fm) 313 F Lo 0 [(0, .ref 159), (1, .int a1), (2, .int a2)] [] (hq true c y w) Q := by
  unfold d_313 at h
  obtain ⟨lv, elv⟩ : ∃ lv : rx_L, lv = [(0, .ref 159), (1, .int a1), (2, .int a2)] := ⟨_, rfl⟩
  rw [← elv]
  have l0 : rx_ld lv 0 = some (.ref 159) := by rw [elv]; rfl
  have l1 : rx_ld lv 1 = some (.int a1) := by rw [elv]; rfl
  have l2 : rx_ld lv 2 = some (.int a2) := by rw [elv]; rfl
  refine rs_ildn wi_313_0 l1 ?_
  refine rs_pure wi_313_1 rfl ?_
  refine rs_topi (v := 8) (by decide) ?_
  refine rs_pure wi_313_3 rfl ?_
  refine rs_aldn wi_313_4 l0 ?_
  refine dq_gr wi_313_5 wf_313_38 tf_159_1 ?_
  refine dq_gr wi_313_8 wf_313_198 tf_114_12 ?_
  refine rs_ildn wi_313_11 l2 ?_
  obtain ⟨g1, h⟩ := wp_gd h
  refine dq_iald wi_313_12 t_125 g1 ?_
  refine rs_pure wi_313_13 rfl ?_
  obtain ⟨v3, e4, h⟩ := wp_lt h
  refine rs_topi e4 ?_
  refine dl_istn wi_313_14 rfl (fun lv l3 t2 => ?_)
  have l0 := t2 _ _ (by decide) (Or.inl rfl) l0
  have l1 := t2 _ _ (by decide) (Or.inl rfl) l1
  have l2 := t2 _ _ (by decide) (Or.inl rfl) l2
  refine rs_aldn wi_313_15 l0 ?_
  refine dq_gr wi_313_16 wf_313_38 tf_159_1 ?_
  refine dq_gr wi_313_19 wf_313_210 tf_114_9 ?_
  refine rs_ildn wi_313_22 l2 ?_
  obtain ⟨g5, h⟩ := wp_gd h
  refine dq_iald wi_313_23 t_122 g5 ?_
  obtain ⟨v7, e8, h⟩ := wp_lt h
  refine rs_topi e8 ?_
  refine dl_ist wi_313_24 rfl (fun lv l4 t6 => ?_)
  have l0 := t6 _ _ (by decide) (Or.inl rfl) l0
  have l1 := t6 _ _ (by decide) (Or.inl rfl) l1
  have l2 := t6 _ _ (by decide) (Or.inl rfl) l2
  have l3 := t6 _ _ (by decide) (Or.inl rfl) l3
  refine rs_aldn wi_313_26 l0 ?_
  refine dq_gr wi_313_27 wf_313_38 tf_159_1 ?_
  refine dq_gr wi_313_30 wf_313_128 tf_114_8 ?_
  refine rs_ildn wi_313_33 l2 ?_
  obtain ⟨g9, h⟩ := wp_gd h
  refine dq_iald wi_313_34 t_121 g9 ?_
  refine wp_jn (B := fun p10 : cS => ∀ lv, rs (rt_P sc fm) 313 F Lo 390 lv [] (hq true p10 y w) Q) h (fun p10 h lv => ?_) (fun j390 hj390 h => ?_)
  ·
    exact rs_vret wi_313_390 wr_313 (hQ p10 h)
  refine wp_jn (B := fun p11 : Unit => ∀ lv, rx_ld lv 0 = some (.ref 159) → rx_ld lv 2 = some (.int a2) → rx_ld lv 3 = some (.int v3) → rs (rt_P sc fm) 313 F Lo 256 lv [] (hq true c y w) Q) h (fun p11 h lv l0 l2 l3 => ?_) (fun j256 hj256 h => ?_)
  ·
    refine rs_aldn wi_313_256 l0 ?_
    refine dq_gr wi_313_257 wf_313_27 tf_159_9 ?_
    refine rs_ildn wi_313_260 l3 ?_
    refine rs_pure wi_313_261 rfl ?_
    refine rs_topi (v := 2) (by decide) ?_
    refine rs_pure wi_313_262 rfl ?_
    refine rs_aldn wi_313_263 l0 ?_
    refine rs_aldn wi_313_264 l0 ?_
    refine dq_gr wi_313_265 wf_313_38 tf_159_1 ?_
    refine dq_gr wi_313_268 wf_313_128 tf_114_8 ?_
    refine rs_ildn wi_313_271 l2 ?_
    obtain ⟨g12, h⟩ := wp_gd h
    refine dq_iald wi_313_272 t_121 g12 ?_
    refine rs_aldn wi_313_273 l0 ?_
    refine dq_gr wi_313_274 wf_313_27 tf_159_9 ?_
    refine rs_ildn wi_313_277 l3 ?_
    refine rs_pure wi_313_278 rfl ?_
    refine rs_topi (v := 2) (by decide) ?_
    refine rs_pure wi_313_279 rfl ?_
    obtain ⟨g13, h⟩ := wp_gd h
    refine dq_lald wi_313_280 t_165 g13 ?_
    refine rs_aldn wi_313_281 l0 ?_
    refine dq_gr wi_313_282 wf_313_27 tf_159_9 ?_
    refine rs_ildn wi_313_285 l3 ?_
    refine rs_pure wi_313_286 rfl ?_
    refine rs_topi (v := 1) (by decide) ?_
    refine rs_pure wi_313_287 rfl ?_
    obtain ⟨g14, h⟩ := wp_gd h
    refine dq_lald wi_313_288 t_165 g14 ?_
    refine rs_V wi_313_289 wc_313_224 rfl (dq_isa tf_159_0 wa_11_315) (Nat.le_trans (by decide) hF) (ml_le wm_315 (Nat.le_trans (by decide) hLo)) rfl (sp_315 hw (Nat.le_trans (by decide : 1 ≤ 2 - 1) (Nat.sub_le_sub_right hF 1)) (ml_sub wm_315 (Nat.le_trans (by decide : 23 ≤ 55 - 32) (Nat.sub_le_sub_right hLo 32))) (wp_bind h) (fun v15 h => rs_back1 ?_))
    obtain ⟨g16, h⟩ := wp_gd h
    obtain ⟨c17, e18, h⟩ := wp_lt h
    refine dq_last wi_313_292 t_165 g16 e18 ?_
    refine rs_goto (tg := 390) wi_313_293 ⟨by decide, by decide⟩ ?_
    exact hj390 _ h _
  by_cases q19 : (c.1 121 (ix a2)) = 214
  ·
    have h := wp_pos h q19
    refine rs_tsk (tg := 116) (off := 81) (v := 214) wi_313_35 q19 (by decide) (by decide) ⟨by decide, by decide⟩ ?_
    refine rs_aldn wi_313_116 l0 ?_
    refine dq_gr wi_313_117 wf_313_27 tf_159_9 ?_
    refine rs_ildn wi_313_120 l3 ?_
    refine rs_ild wi_313_121 l4 ?_
    refine rs_aldn wi_313_123 l0 ?_
    refine dq_gr wi_313_124 wf_313_38 tf_159_1 ?_
    refine dq_gr wi_313_127 wf_313_201 tf_114_10 ?_
    refine rs_ildn wi_313_130 l2 ?_
    obtain ⟨g20, h⟩ := wp_gd h
    refine dq_iald wi_313_131 t_123 g20 ?_
    refine rs_S wi_313_132 wc_313_213 (Or.inl rfl) rfl (Nat.le_trans (by decide) hF) (ml_le wm_299 (Nat.le_trans (by decide) hLo)) rfl (sp_299 (Nat.le_trans (by decide : 0 ≤ 2 - 1) (Nat.sub_le_sub_right hF 1)) (ml_sub wm_299 (Nat.le_trans (by decide : 0 ≤ 55 - 21) (Nat.sub_le_sub_right hLo 21))) (wp_bind h) (fun v21 h => rs_back1 ?_))
    obtain ⟨g22, h⟩ := wp_gd h
    obtain ⟨c23, e24, h⟩ := wp_lt h
    refine dq_last wi_313_135 t_165 g22 e24 ?_
    refine rs_goto (tg := 390) wi_313_136 ⟨by decide, by decide⟩ ?_
    exact hj390 _ h _
  have h := wp_neg h q19
  by_cases q25 : (c.1 121 (ix a2)) = 215
  ·
    have h := wp_pos h q25
    refine rs_tsk (tg := 139) (off := 104) (v := 215) wi_313_35 q25 (by decide) (by decide) ⟨by decide, by decide⟩ ?_
    refine rs_aldn wi_313_139 l0 ?_
    refine dq_gr wi_313_140 wf_313_27 tf_159_9 ?_
    refine rs_ildn wi_313_143 l3 ?_
    refine rs_aldn wi_313_144 l0 ?_
    refine rs_V wi_313_145 wc_313_217 rfl (dq_isa tf_159_0 wa_11_298) (Nat.le_trans (by decide) hF) (ml_le wm_298 (Nat.le_trans (by decide) hLo)) rfl (sp_298 hw (Nat.le_trans (by decide : 1 ≤ 2 - 1) (Nat.sub_le_sub_right hF 1)) (ml_sub wm_298 (Nat.le_trans (by decide : 26 ≤ 55 - 21) (Nat.sub_le_sub_right hLo 21))) (wp_bind h) (fun r26 h => rs_back1 ?_))
    refine rs_aldn wi_313_148 l0 ?_
    refine dq_gr wi_313_149 wf_313_38 tf_159_1 ?_
    refine dq_gr wi_313_152 wf_313_201 tf_114_10 ?_
    refine rs_ildn wi_313_155 l2 ?_
    obtain ⟨g27, h⟩ := wp_gd h
    refine dq_iald wi_313_156 t_123 g27 ?_
    refine rs_S wi_313_157 wc_313_213 (Or.inl rfl) rfl (Nat.le_trans (by decide) hF) (ml_le wm_299 (Nat.le_trans (by decide) hLo)) rfl (sp_299 (Nat.le_trans (by decide : 0 ≤ 2 - 1) (Nat.sub_le_sub_right hF 1)) (ml_sub wm_299 (Nat.le_trans (by decide : 0 ≤ 55 - 21) (Nat.sub_le_sub_right hLo 21))) (wp_bind h) (fun v28 h => rs_back1 ?_))
    obtain ⟨g29, h⟩ := wp_gd h
    obtain ⟨c30, e31, h⟩ := wp_lt h
    refine dq_last wi_313_160 t_165 g29 e31 ?_
    refine rs_goto (tg := 390) wi_313_161 ⟨by decide, by decide⟩ ?_
    exact hj390 _ h _
  have h := wp_neg h q25
  by_cases q32 : (c.1 121 (ix a2)) = 216
  ·
    have h := wp_pos h q32
    refine rs_tsk (tg := 164) (off := 129) (v := 216) wi_313_35 q32 (by decide) (by decide) ⟨by decide, by decide⟩ ?_
    refine rs_aldn wi_313_164 l0 ?_
    refine dq_gr wi_313_165 wf_313_27 tf_159_9 ?_
    refine rs_ildn wi_313_168 l3 ?_
    refine rs_aldn wi_313_169 l0 ?_
    refine dq_gr wi_313_170 wf_313_27 tf_159_9 ?_
    refine rs_ildn wi_313_173 l1 ?_
    refine rs_ild wi_313_174 l4 ?_
    refine rs_pure wi_313_176 rfl ?_
    obtain ⟨g33, h⟩ := wp_gd h
    refine dq_lald wi_313_177 t_165 g33 ?_
    obtain ⟨g34, h⟩ := wp_gd h
    obtain ⟨c35, e36, h⟩ := wp_lt h
    refine dq_last wi_313_178 t_165 g34 e36 ?_
    refine rs_goto (tg := 390) wi_313_179 ⟨by decide, by decide⟩ ?_
    exact hj390 _ h _
  have h := wp_neg h q32
  by_cases q37 : (c.1 121 (ix a2)) = 217
  ·
    have h := wp_pos h q37
    refine rs_tsk (tg := 182) (off := 147) (v := 217) wi_313_35 q37 (by decide) (by decide) ⟨by decide, by decide⟩ ?_
    refine rs_aldn wi_313_182 l0 ?_
    refine dq_gr wi_313_183 wf_313_27 tf_159_9 ?_
    refine rs_ildn wi_313_186 l1 ?_
    refine rs_ild wi_313_187 l4 ?_
    refine rs_pure wi_313_189 rfl ?_
    refine rs_aldn wi_313_190 l0 ?_
    refine dq_gr wi_313_191 wf_313_27 tf_159_9 ?_
    refine rs_ildn wi_313_194 l3 ?_
    refine rs_pure wi_313_195 rfl ?_
    refine rs_topi (v := 1) (by decide) ?_
    refine rs_pure wi_313_196 rfl ?_
    obtain ⟨g38, h⟩ := wp_gd h
    refine dq_lald wi_313_197 t_165 g38 ?_
    obtain ⟨g39, h⟩ := wp_gd h
    obtain ⟨c40, e41, h⟩ := wp_lt h
    refine dq_last wi_313_198 t_165 g39 e41 ?_
    refine rs_goto (tg := 390) wi_313_199 ⟨by decide, by decide⟩ ?_
    exact hj390 _ h _
  have h := wp_neg h q37
  by_cases q42 : (c.1 121 (ix a2)) = 218
  ·
    have h := wp_pos h q42
    refine rs_tsk (tg := 202) (off := 167) (v := 218) wi_313_35 q42 (by decide) (by decide) ⟨by decide, by decide⟩ ?_
    refine rs_aldn wi_313_202 l0 ?_
    refine dq_gr wi_313_203 wf_313_27 tf_159_9 ?_
    refine rs_ildn wi_313_206 l3 ?_
    refine rs_aldn wi_313_207 l0 ?_
    refine dq_gr wi_313_208 wf_313_31 tf_159_11 ?_
    refine rs_aldn wi_313_211 l0 ?_
    refine dq_gr wi_313_212 wf_313_38 tf_159_1 ?_
    refine dq_gr wi_313_215 wf_313_201 tf_114_10 ?_
    refine rs_ildn wi_313_218 l2 ?_
    obtain ⟨g43, h⟩ := wp_gd h
    refine dq_iald wi_313_219 t_123 g43 ?_
    refine rs_S wi_313_220 wc_313_221 (Or.inl rfl) rfl (Nat.le_trans (by decide) hF) (ml_le wm_314 (Nat.le_trans (by decide) hLo)) rfl (sp_314 (Nat.le_trans (by decide : 0 ≤ 2 - 1) (Nat.sub_le_sub_right hF 1)) (ml_sub wm_314 (Nat.le_trans (by decide : 0 ≤ 55 - 20) (Nat.sub_le_sub_right hLo 20))) (wp_bind h) (fun v44 h => rs_back1 ?_))
    obtain ⟨g45, h⟩ := wp_gd h
    refine dq_lald wi_313_223 t_166 g45 ?_
    obtain ⟨g46, h⟩ := wp_gd h
    obtain ⟨c47, e48, h⟩ := wp_lt h
    refine dq_last wi_313_224 t_165 g46 e48 ?_
    refine rs_goto (tg := 390) wi_313_225 ⟨by decide, by decide⟩ ?_
    exact hj390 _ h _
  have h := wp_neg h q42
  by_cases q49 : (c.1 121 (ix a2)) = 219
  ·
    have h := wp_pos h q49
    refine rs_tsk (tg := 228) (off := 193) (v := 219) wi_313_35 q49 (by decide) (by decide) ⟨by decide, by decide⟩ ?_
    refine rs_aldn wi_313_228 l0 ?_
    refine dq_gr wi_313_229 wf_313_31 tf_159_11 ?_
    refine rs_aldn wi_313_232 l0 ?_
    refine dq_gr wi_313_233 wf_313_38 tf_159_1 ?_
    refine dq_gr wi_313_236 wf_313_201 tf_114_10 ?_
    refine rs_ildn wi_313_239 l2 ?_
    obtain ⟨g50, h⟩ := wp_gd h
    refine dq_iald wi_313_240 t_123 g50 ?_
    refine rs_S wi_313_241 wc_313_221 (Or.inl rfl) rfl (Nat.le_trans (by decide) hF) (ml_le wm_314 (Nat.le_trans (by decide) hLo)) rfl (sp_314 (Nat.le_trans (by decide : 0 ≤ 2 - 1) (Nat.sub_le_sub_right hF 1)) (ml_sub wm_314 (Nat.le_trans (by decide : 0 ≤ 55 - 20) (Nat.sub_le_sub_right hLo 20))) (wp_bind h) (fun v51 h => rs_back1 ?_))
    refine rs_aldn wi_313_244 l0 ?_
    refine dq_gr wi_313_245 wf_313_27 tf_159_9 ?_
    refine rs_ildn wi_313_248 l3 ?_
    refine rs_pure wi_313_249 rfl ?_
    refine rs_topi (v := 1) (by decide) ?_
    refine rs_pure wi_313_250 rfl ?_
    obtain ⟨g52, h⟩ := wp_gd h
    refine dq_lald wi_313_251 t_165 g52 ?_
    obtain ⟨g53, h⟩ := wp_gd h
    obtain ⟨c54, e55, h⟩ := wp_lt h
    refine dq_last wi_313_252 t_166 g53 e55 ?_
    refine rs_goto (tg := 390) wi_313_253 ⟨by decide, by decide⟩ ?_
    exact hj390 _ h _
  have h := wp_neg h q49
  by_cases q56 : (c.1 121 (ix a2)) = 220
  ·
    have h := wp_pos h q56
    refine rs_tsk (tg := 390) (off := 355) (v := 220) wi_313_35 q56 (by decide) (by decide) ⟨by decide, by decide⟩ ?_
    exact hj390 _ h _
  have h := wp_neg h q56
  by_cases q57 : (c.1 121 (ix a2)) = 221
  ·
    have h := wp_pos h q57
    refine rs_tsk (tg := 390) (off := 355) (v := 221) wi_313_35 q57 (by decide) (by decide) ⟨by decide, by decide⟩ ?_
    exact hj390 _ h _
  have h := wp_neg h q57
  by_cases q58 : (c.1 121 (ix a2)) = 222
  ·
    have h := wp_pos h q58
    refine rs_tsk (tg := 256) (off := 221) (v := 222) wi_313_35 q58 (by decide) (by decide) ⟨by decide, by decide⟩ ?_
    exact hj256 _ h _ l0 l2 l3
  have h := wp_neg h q58
  by_cases q59 : (c.1 121 (ix a2)) = 223
  ·
    have h := wp_pos h q59
    refine rs_tsk (tg := 256) (off := 221) (v := 223) wi_313_35 q59 (by decide) (by decide) ⟨by decide, by decide⟩ ?_
    exact hj256 _ h _ l0 l2 l3
  have h := wp_neg h q59
  by_cases q60 : (c.1 121 (ix a2)) = 224
  ·
    have h := wp_pos h q60
    refine rs_tsk (tg := 256) (off := 221) (v := 224) wi_313_35 q60 (by decide) (by decide) ⟨by decide, by decide⟩ ?_
    exact hj256 _ h _ l0 l2 l3
  have h := wp_neg h q60
  by_cases q61 : (c.1 121 (ix a2)) = 225
  ·
    have h := wp_pos h q61
    refine rs_tsk (tg := 296) (off := 261) (v := 225) wi_313_35 q61 (by decide) (by decide) ⟨by decide, by decide⟩ ?_
    refine rs_aldn wi_313_296 l0 ?_
    refine dq_gr wi_313_297 wf_313_27 tf_159_9 ?_
    refine rs_ildn wi_313_300 l3 ?_
    refine rs_aldn wi_313_301 l0 ?_
    refine dq_gr wi_313_302 wf_313_27 tf_159_9 ?_
    refine rs_ildn wi_313_305 l3 ?_
    refine rs_pure wi_313_306 rfl ?_
    refine rs_topi (v := 1) (by decide) ?_
    refine rs_pure wi_313_307 rfl ?_
    obtain ⟨g62, h⟩ := wp_gd h
    refine dq_lald wi_313_308 t_165 g62 ?_
    obtain ⟨g63, h⟩ := wp_gd h
    obtain ⟨c64, e65, h⟩ := wp_lt h
    refine dq_last wi_313_309 t_165 g63 e65 ?_
    refine rs_goto (tg := 390) wi_313_310 ⟨by decide, by decide⟩ ?_
    exact hj390 _ h _
  have h := wp_neg h q61
  by_cases q66 : (c.1 121 (ix a2)) = 226
  ·
    have h := wp_pos h q66
    refine rs_tsk (tg := 390) (off := 355) (v := 226) wi_313_35 q66 (by decide) (by decide) ⟨by decide, by decide⟩ ?_
    exact hj390 _ h _
  have h := wp_neg h q66
  by_cases q67 : (c.1 121 (ix a2)) = 227
  ·
    have h := wp_pos h q67
    refine rs_tsk (tg := 390) (off := 355) (v := 227) wi_313_35 q67 (by decide) (by decide) ⟨by decide, by decide⟩ ?_
    exact hj390 _ h _
  have h := wp_neg h q67
  by_cases q68 : (c.1 121 (ix a2)) = 228
  ·
    have h := wp_pos h q68
    refine rs_tsk (tg := 390) (off := 355) (v := 228) wi_313_35 q68 (by decide) (by decide) ⟨by decide, by decide⟩ ?_
    exact hj390 _ h _
  have h := wp_neg h q68
  by_cases q69 : (c.1 121 (ix a2)) = 229
  ·
    have h := wp_pos h q69
    refine rs_tsk (tg := 390) (off := 355) (v := 229) wi_313_35 q69 (by decide) (by decide) ⟨by decide, by decide⟩ ?_
    exact hj390 _ h _
  have h := wp_neg h q69
  by_cases q70 : (c.1 121 (ix a2)) = 230
  ·
    have h := wp_pos h q70
    refine rs_tsk (tg := 313) (off := 278) (v := 230) wi_313_35 q70 (by decide) (by decide) ⟨by decide, by decide⟩ ?_
    refine rs_aldn wi_313_313 l0 ?_
    refine dq_gr wi_313_314 wf_313_18 tf_159_6 ?_
    refine rs_pure wi_313_317 rfl ?_
    refine rs_topi (v := 10) (by decide) ?_
    refine rs_pure wi_313_319 rfl ?_
    obtain ⟨g71, h⟩ := wp_gd h
    refine dq_iald wi_313_320 t_162 g71 ?_
    refine rs_aldn wi_313_321 l0 ?_
    refine rs_aldn wi_313_322 l0 ?_
    refine dq_gr wi_313_323 wf_313_27 tf_159_9 ?_
    refine rs_ildn wi_313_326 l3 ?_
    refine rs_pure wi_313_327 rfl ?_
    refine rs_topi (v := 1) (by decide) ?_
    refine rs_pure wi_313_328 rfl ?_
    obtain ⟨g72, h⟩ := wp_gd h
    refine dq_lald wi_313_329 t_165 g72 ?_
    refine rs_aldn wi_313_330 l0 ?_
    refine dq_gr wi_313_331 wf_313_38 tf_159_1 ?_
    refine dq_gr wi_313_334 wf_313_201 tf_114_10 ?_
    refine rs_ildn wi_313_337 l2 ?_
    obtain ⟨g73, h⟩ := wp_gd h
    refine dq_iald wi_313_338 t_123 g73 ?_
    refine rs_ild wi_313_339 l4 ?_
    refine rs_V wi_313_341 wc_313_174 rfl (dq_isa tf_159_0 wa_11_305) (Nat.le_trans (by decide) hF) (ml_le wm_305 (Nat.le_trans (by decide) hLo)) rfl (sp_305 hw (Nat.le_trans (by decide : 1 ≤ 2 - 1) (Nat.sub_le_sub_right hF 1)) (ml_sub wm_305 (Nat.le_trans (by decide : 22 ≤ 55 - 24) (Nat.sub_le_sub_right hLo 24))) (wp_bind h) (fun v74 h => rs_back1 ?_))
    refine wp_jn (B := fun p75 : Int32 => ∀ lv, rx_ld lv 0 = some (.ref 159) → rx_ld lv 2 = some (.int a2) → rx_ld lv 3 = some (.int v3) → rx_ld lv 4 = some (.int v7) → rs (rt_P sc fm) 313 F Lo 352 lv [.int p75, .int (c.1 162 (ix 10)), .int 10, .ref 162] (hq true c y w) Q) h (fun p75 h lv l0 l2 l3 l4 => ?_) (fun j352 hj352 h => ?_)
    ·
      refine rs_pure wi_313_352 rfl ?_
      obtain ⟨g76, h⟩ := wp_gd h
      obtain ⟨c77, e78, h⟩ := wp_lt h
      refine dq_iast wi_313_353 t_162 g76 e78 ?_
      refine rs_aldn wi_313_354 l0 ?_
      refine dq_gr wi_313_355 wf_313_27 tf_159_9 ?_
      refine rs_ildn wi_313_358 l3 ?_
      refine rs_pure wi_313_359 rfl ?_
      refine rs_topi (v := 1) (by decide) ?_
      refine rs_pure wi_313_360 rfl ?_
      refine rs_aldn wi_313_361 l0 ?_
      refine dq_gr wi_313_362 wf_313_27 tf_159_9 ?_
      refine rs_ildn wi_313_365 l3 ?_
      refine rs_pure wi_313_366 rfl ?_
      refine rs_topi (v := 1) (by decide) ?_
      refine rs_pure wi_313_367 rfl ?_
      obtain ⟨g79, h⟩ := wp_gd h
      refine dq_lald wi_313_368 t_165 g79 ?_
      refine rs_pure wi_313_369 rfl ?_
      refine rs_topi (v := 8) (by decide) ?_
      refine rs_aldn wi_313_371 l0 ?_
      refine dq_gr wi_313_372 wf_313_38 tf_159_1 ?_
      refine dq_gr wi_313_375 wf_313_201 tf_114_10 ?_
      refine rs_ildn wi_313_378 l2 ?_
      obtain ⟨g80, h⟩ := wp_gd h
      refine dq_iald wi_313_379 t_123 g80 ?_
      refine rs_pure wi_313_380 rfl ?_
      refine rs_ild wi_313_381 l4 ?_
      refine rs_SN wi_313_383 wc_313_92 rfl (Nat.le_trans (by decide) hF) (ml_le wm_356 (Nat.le_trans (by decide) hLo)) rfl (sp_356 (Nat.le_trans (by decide : 0 ≤ 2 - 1) (Nat.sub_le_sub_right hF 1)) (ml_sub wm_356 (Nat.le_trans (by decide : 0 ≤ 55 - 23) (Nat.sub_le_sub_right hLo 23))) (wp_bind h) (fun v81 h => rs_back1 ?_))
      obtain ⟨g82, h⟩ := wp_gd h
      obtain ⟨c83, e84, h⟩ := wp_lt h
      refine dq_last wi_313_386 t_165 g82 e84 ?_
      refine rs_goto (tg := 390) wi_313_387 ⟨by decide, by decide⟩ ?_
      exact hj390 _ h _
    refine rs_ifeq (tg := 351) wi_313_344 ⟨by decide, by decide⟩ (fun q => ?_) (fun q => ?_)
    ·
      have h := wp_pos h q
      refine rs_pure wi_313_351 rfl ?_
      refine rs_topi (v := 1) (by decide) ?_
      exact hj352 _ h _ l0 l2 l3 l4
    ·
      have h := wp_neg h q
      refine rs_pure wi_313_347 rfl ?_
      refine rs_topi (v := 0) (by decide) ?_
      refine rs_goto (tg := 352) wi_313_348 ⟨by decide, by decide⟩ ?_
      exact hj352 _ h _ l0 l2 l3 l4
  have h := wp_neg h q70
  refine rs_tsd (tg := 390) wi_313_35 (rz_sw fun k k1 k2 => by
    have kk : k = 214 ∨ k = 215 ∨ k = 216 ∨ k = 217 ∨ k = 218 ∨ k = 219 ∨ k = 220 ∨ k = 221 ∨ k = 222 ∨ k = 223 ∨ k = 224 ∨ k = 225 ∨ k = 226 ∨ k = 227 ∨ k = 228 ∨ k = 229 ∨ k = 230 := by omega
    rcases kk with rfl | rfl | rfl | rfl | rfl | rfl | rfl | rfl | rfl | rfl | rfl | rfl | rfl | rfl | rfl | rfl | rfl
    · exact q19
    · exact q25
    · exact q32
    · exact q37
    · exact q42
    · exact q49
    · exact q56
    · exact q57
    · exact q58
    · exact q59
    · exact q60
    · exact q61
    · exact q66
    · exact q67
    · exact q68
    · exact q69
    · exact q70
    ) ⟨by decide, by decide⟩ ?_
  exact hj390 _ h _
theorem wa_11_307 : rz_cn 11 (rx_yn (rt_P sc fm) 307).cls = true := (by decide +kernel : rz_cn 11 (rt_yn 307).cls = true)
theorem wa_11_308 : rz_cn 11 (rx_yn (rt_P sc fm) 308).cls = true := (by decide +kernel : rz_cn 11 (rt_yn 308).cls = true)
theorem wa_11_310 : rz_cn 11 (rx_yn (rt_P sc fm) 310).cls = true := (by decide +kernel : rz_cn 11 (rt_yn 310).cls = true)
theorem wa_11_311 : rz_cn 11 (rx_yn (rt_P sc fm) 311).cls = true := (by decide +kernel : rz_cn 11 (rt_yn 311).cls = true)
theorem wa_11_312 : rz_cn 11 (rx_yn (rt_P sc fm) 312).cls = true := (by decide +kernel : rz_cn 11 (rt_yn 312).cls = true)
theorem wa_11_313 : rz_cn 11 (rx_yn (rt_P sc fm) 313).cls = true := (by decide +kernel : rz_cn 11 (rt_yn 313).cls = true)
theorem wc_303_124 : rx_ct (rt_P sc fm) 303 124 = some (0, 307, 2) := (by decide +kernel : rt_ct 303 124 = some (0, 307, 2))
theorem wc_303_131 : rx_ct (rt_P sc fm) 303 131 = some (0, 308, 2) := (by decide +kernel : rt_ct 303 131 = some (0, 308, 2))
theorem wc_303_135 : rx_ct (rt_P sc fm) 303 135 = some (0, 310, 2) := (by decide +kernel : rt_ct 303 135 = some (0, 310, 2))
theorem wc_303_138 : rx_ct (rt_P sc fm) 303 138 = some (0, 311, 2) := (by decide +kernel : rt_ct 303 138 = some (0, 311, 2))
theorem wc_303_141 : rx_ct (rt_P sc fm) 303 141 = some (1, 304, 1) := (by decide +kernel : rt_ct 303 141 = some (1, 304, 1))
theorem wc_303_145 : rx_ct (rt_P sc fm) 303 145 = some (0, 312, 2) := (by decide +kernel : rt_ct 303 145 = some (0, 312, 2))
theorem wc_303_151 : rx_ct (rt_P sc fm) 303 151 = some (0, 313, 2) := (by decide +kernel : rt_ct 303 151 = some (0, 313, 2))
theorem wf_303_121 : rx_ft (rt_P sc fm) 303 121 = some (2, 5) := (by decide +kernel : rt_ft 303 121 = some (2, 5))
theorem wf_303_128 : rx_ft (rt_P sc fm) 303 128 = some (2, 8) := (by decide +kernel : rt_ft 303 128 = some (2, 8))
theorem wf_303_148 : rx_ft (rt_P sc fm) 303 148 = some (2, 11) := (by decide +kernel : rt_ft 303 148 = some (2, 11))
theorem wf_303_18 : rx_ft (rt_P sc fm) 303 18 = some (11, 6) := (by decide +kernel : rt_ft 303 18 = some (11, 6))
theorem wf_303_21 : rx_ft (rt_P sc fm) 303 21 = some (11, 7) := (by decide +kernel : rt_ft 303 21 = some (11, 7))
theorem wf_303_24 : rx_ft (rt_P sc fm) 303 24 = some (11, 8) := (by decide +kernel : rt_ft 303 24 = some (11, 8))
theorem wf_303_38 : rx_ft (rt_P sc fm) 303 38 = some (11, 1) := (by decide +kernel : rt_ft 303 38 = some (11, 1))
theorem wf_303_70 : rx_ft (rt_P sc fm) 303 70 = some (11, 12) := (by decide +kernel : rt_ft 303 70 = some (11, 12))
theorem wf_303_99 : rx_ft (rt_P sc fm) 303 99 = some (11, 10) := (by decide +kernel : rt_ft 303 99 = some (11, 10))
theorem wi_303_0 : ri (rt_P sc fm) 303 0 (.aload_n 0) (1) := ri_of (by decide +kernel) rfl
theorem wi_303_1 : ri (rt_P sc fm) 303 1 (.getfield 99) (4) := ri_of (by decide +kernel) rfl
theorem wi_303_100 : ri (rt_P sc fm) 303 100 (.iastore) (101) := ri_of (by decide +kernel) rfl
theorem wi_303_101 : ri (rt_P sc fm) 303 101 (.aload_n 0) (102) := ri_of (by decide +kernel) rfl
theorem wi_303_102 : ri (rt_P sc fm) 303 102 (.getfield 38) (105) := ri_of (by decide +kernel) rfl
theorem wi_303_105 : ri (rt_P sc fm) 303 105 (.getfield 128) (108) := ri_of (by decide +kernel) rfl
theorem wi_303_108 : ri (rt_P sc fm) 303 108 (.iload_n 2) (109) := ri_of (by decide +kernel) rfl
theorem wi_303_109 : ri (rt_P sc fm) 303 109 (.iaload) (110) := ri_of (by decide +kernel) rfl
theorem wi_303_11 : ri (rt_P sc fm) 303 11 (.getfield 121) (14) := ri_of (by decide +kernel) rfl
theorem wi_303_110 : ri (rt_P sc fm) 303 110 (.sipush 220) (113) := ri_of (by decide +kernel) rfl
theorem wi_303_113 : ri (rt_P sc fm) 303 113 (.if_icmp .ne 12) (116) := ri_of (by decide +kernel) rfl
theorem wi_303_116 : ri (rt_P sc fm) 303 116 (.aload_n 0) (117) := ri_of (by decide +kernel) rfl
theorem wi_303_117 : ri (rt_P sc fm) 303 117 (.iload_n 1) (118) := ri_of (by decide +kernel) rfl
theorem wi_303_118 : ri (rt_P sc fm) 303 118 (.iload_n 2) (119) := ri_of (by decide +kernel) rfl
theorem wi_303_119 : ri (rt_P sc fm) 303 119 (.invokevirtual 135) (122) := ri_of (by decide +kernel) rfl
theorem wi_303_122 : ri (rt_P sc fm) 303 122 (.goto 99) (125) := ri_of (by decide +kernel) rfl
theorem wi_303_125 : ri (rt_P sc fm) 303 125 (.aload_n 0) (126) := ri_of (by decide +kernel) rfl
theorem wi_303_126 : ri (rt_P sc fm) 303 126 (.getfield 38) (129) := ri_of (by decide +kernel) rfl
theorem wi_303_129 : ri (rt_P sc fm) 303 129 (.getfield 128) (132) := ri_of (by decide +kernel) rfl
theorem wi_303_132 : ri (rt_P sc fm) 303 132 (.iload_n 2) (133) := ri_of (by decide +kernel) rfl
theorem wi_303_133 : ri (rt_P sc fm) 303 133 (.iaload) (134) := ri_of (by decide +kernel) rfl
theorem wi_303_134 : ri (rt_P sc fm) 303 134 (.sipush 221) (137) := ri_of (by decide +kernel) rfl
theorem wi_303_137 : ri (rt_P sc fm) 303 137 (.if_icmp .ne 12) (140) := ri_of (by decide +kernel) rfl
theorem wi_303_14 : ri (rt_P sc fm) 303 14 (.aload_n 0) (15) := ri_of (by decide +kernel) rfl
theorem wi_303_140 : ri (rt_P sc fm) 303 140 (.aload_n 0) (141) := ri_of (by decide +kernel) rfl
theorem wi_303_141 : ri (rt_P sc fm) 303 141 (.iload_n 1) (142) := ri_of (by decide +kernel) rfl
theorem wi_303_142 : ri (rt_P sc fm) 303 142 (.iload_n 2) (143) := ri_of (by decide +kernel) rfl
theorem wi_303_143 : ri (rt_P sc fm) 303 143 (.invokevirtual 138) (146) := ri_of (by decide +kernel) rfl
theorem wi_303_146 : ri (rt_P sc fm) 303 146 (.goto 75) (149) := ri_of (by decide +kernel) rfl
theorem wi_303_149 : ri (rt_P sc fm) 303 149 (.aload_n 0) (150) := ri_of (by decide +kernel) rfl
theorem wi_303_15 : ri (rt_P sc fm) 303 15 (.getfield 21) (18) := ri_of (by decide +kernel) rfl
theorem wi_303_150 : ri (rt_P sc fm) 303 150 (.getfield 38) (153) := ri_of (by decide +kernel) rfl
theorem wi_303_153 : ri (rt_P sc fm) 303 153 (.getfield 128) (156) := ri_of (by decide +kernel) rfl
theorem wi_303_156 : ri (rt_P sc fm) 303 156 (.iload_n 2) (157) := ri_of (by decide +kernel) rfl
theorem wi_303_157 : ri (rt_P sc fm) 303 157 (.iaload) (158) := ri_of (by decide +kernel) rfl
theorem wi_303_158 : ri (rt_P sc fm) 303 158 (.invokestatic 141) (161) := ri_of (by decide +kernel) rfl
theorem wi_303_161 : ri (rt_P sc fm) 303 161 (.ifCond .eq 41) (164) := ri_of (by decide +kernel) rfl
theorem wi_303_164 : ri (rt_P sc fm) 303 164 (.aload_n 0) (165) := ri_of (by decide +kernel) rfl
theorem wi_303_165 : ri (rt_P sc fm) 303 165 (.getfield 24) (168) := ri_of (by decide +kernel) rfl
theorem wi_303_168 : ri (rt_P sc fm) 303 168 (.iload_n 1) (169) := ri_of (by decide +kernel) rfl
theorem wi_303_169 : ri (rt_P sc fm) 303 169 (.aload_n 0) (170) := ri_of (by decide +kernel) rfl
theorem wi_303_170 : ri (rt_P sc fm) 303 170 (.iload_n 1) (171) := ri_of (by decide +kernel) rfl
theorem wi_303_171 : ri (rt_P sc fm) 303 171 (.iload_n 2) (172) := ri_of (by decide +kernel) rfl
theorem wi_303_172 : ri (rt_P sc fm) 303 172 (.invokevirtual 145) (175) := ri_of (by decide +kernel) rfl
theorem wi_303_175 : ri (rt_P sc fm) 303 175 (.ifCond .eq 15) (178) := ri_of (by decide +kernel) rfl
theorem wi_303_178 : ri (rt_P sc fm) 303 178 (.aload_n 0) (179) := ri_of (by decide +kernel) rfl
theorem wi_303_179 : ri (rt_P sc fm) 303 179 (.getfield 38) (182) := ri_of (by decide +kernel) rfl
theorem wi_303_18 : ri (rt_P sc fm) 303 18 (.iload_n 1) (19) := ri_of (by decide +kernel) rfl
theorem wi_303_182 : ri (rt_P sc fm) 303 182 (.getfield 148) (185) := ri_of (by decide +kernel) rfl
theorem wi_303_185 : ri (rt_P sc fm) 303 185 (.iload_n 2) (186) := ri_of (by decide +kernel) rfl
theorem wi_303_186 : ri (rt_P sc fm) 303 186 (.iaload) (187) := ri_of (by decide +kernel) rfl
theorem wi_303_187 : ri (rt_P sc fm) 303 187 (.goto 11) (190) := ri_of (by decide +kernel) rfl
theorem wi_303_19 : ri (rt_P sc fm) 303 19 (.iaload) (20) := ri_of (by decide +kernel) rfl
theorem wi_303_190 : ri (rt_P sc fm) 303 190 (.aload_n 0) (191) := ri_of (by decide +kernel) rfl
theorem wi_303_191 : ri (rt_P sc fm) 303 191 (.getfield 24) (194) := ri_of (by decide +kernel) rfl
theorem wi_303_194 : ri (rt_P sc fm) 303 194 (.iload_n 1) (195) := ri_of (by decide +kernel) rfl
theorem wi_303_195 : ri (rt_P sc fm) 303 195 (.iaload) (196) := ri_of (by decide +kernel) rfl
theorem wi_303_196 : ri (rt_P sc fm) 303 196 (.iconst 1) (197) := ri_of (by decide +kernel) rfl
theorem wi_303_197 : ri (rt_P sc fm) 303 197 (.iadd) (198) := ri_of (by decide +kernel) rfl
theorem wi_303_198 : ri (rt_P sc fm) 303 198 (.iastore) (199) := ri_of (by decide +kernel) rfl
theorem wi_303_199 : ri (rt_P sc fm) 303 199 (.goto 22) (202) := ri_of (by decide +kernel) rfl
theorem wi_303_20 : ri (rt_P sc fm) 303 20 (.iaload) (21) := ri_of (by decide +kernel) rfl
theorem wi_303_202 : ri (rt_P sc fm) 303 202 (.aload_n 0) (203) := ri_of (by decide +kernel) rfl
theorem wi_303_203 : ri (rt_P sc fm) 303 203 (.iload_n 1) (204) := ri_of (by decide +kernel) rfl
theorem wi_303_204 : ri (rt_P sc fm) 303 204 (.bipush 16) (206) := ri_of (by decide +kernel) rfl
theorem wi_303_206 : ri (rt_P sc fm) 303 206 (.imul) (207) := ri_of (by decide +kernel) rfl
theorem wi_303_207 : ri (rt_P sc fm) 303 207 (.iload_n 2) (208) := ri_of (by decide +kernel) rfl
theorem wi_303_208 : ri (rt_P sc fm) 303 208 (.invokevirtual 151) (211) := ri_of (by decide +kernel) rfl
theorem wi_303_21 : ri (rt_P sc fm) 303 21 (.aload_n 0) (22) := ri_of (by decide +kernel) rfl
theorem wi_303_211 : ri (rt_P sc fm) 303 211 (.aload_n 0) (212) := ri_of (by decide +kernel) rfl
theorem wi_303_212 : ri (rt_P sc fm) 303 212 (.getfield 24) (215) := ri_of (by decide +kernel) rfl
theorem wi_303_215 : ri (rt_P sc fm) 303 215 (.iload_n 1) (216) := ri_of (by decide +kernel) rfl
theorem wi_303_216 : ri (rt_P sc fm) 303 216 (.dup2) (217) := ri_of (by decide +kernel) rfl
theorem wi_303_217 : ri (rt_P sc fm) 303 217 (.iaload) (218) := ri_of (by decide +kernel) rfl
theorem wi_303_218 : ri (rt_P sc fm) 303 218 (.iconst 1) (219) := ri_of (by decide +kernel) rfl
theorem wi_303_219 : ri (rt_P sc fm) 303 219 (.iadd) (220) := ri_of (by decide +kernel) rfl
theorem wi_303_22 : ri (rt_P sc fm) 303 22 (.getfield 24) (25) := ri_of (by decide +kernel) rfl
theorem wi_303_220 : ri (rt_P sc fm) 303 220 (.iastore) (221) := ri_of (by decide +kernel) rfl
theorem wi_303_221 : ri (rt_P sc fm) 303 221 (.return_) (222) := ri_of (by decide +kernel) rfl
theorem wi_303_25 : ri (rt_P sc fm) 303 25 (.iload_n 1) (26) := ri_of (by decide +kernel) rfl
theorem wi_303_26 : ri (rt_P sc fm) 303 26 (.iaload) (27) := ri_of (by decide +kernel) rfl
theorem wi_303_27 : ri (rt_P sc fm) 303 27 (.iadd) (28) := ri_of (by decide +kernel) rfl
theorem wi_303_28 : ri (rt_P sc fm) 303 28 (.istore_n 2) (29) := ri_of (by decide +kernel) rfl
theorem wi_303_29 : ri (rt_P sc fm) 303 29 (.aload_n 0) (30) := ri_of (by decide +kernel) rfl
theorem wi_303_30 : ri (rt_P sc fm) 303 30 (.getfield 70) (33) := ri_of (by decide +kernel) rfl
theorem wi_303_33 : ri (rt_P sc fm) 303 33 (.ifCond .eq 20) (36) := ri_of (by decide +kernel) rfl
theorem wi_303_36 : ri (rt_P sc fm) 303 36 (.aload_n 0) (37) := ri_of (by decide +kernel) rfl
theorem wi_303_37 : ri (rt_P sc fm) 303 37 (.iload_n 1) (38) := ri_of (by decide +kernel) rfl
theorem wi_303_38 : ri (rt_P sc fm) 303 38 (.iload_n 2) (39) := ri_of (by decide +kernel) rfl
theorem wi_303_39 : ri (rt_P sc fm) 303 39 (.invokevirtual 124) (42) := ri_of (by decide +kernel) rfl
theorem wi_303_4 : ri (rt_P sc fm) 303 4 (.iconst 1) (5) := ri_of (by decide +kernel) rfl
theorem wi_303_42 : ri (rt_P sc fm) 303 42 (.ifCond .ne 11) (45) := ri_of (by decide +kernel) rfl
theorem wi_303_45 : ri (rt_P sc fm) 303 45 (.aload_n 0) (46) := ri_of (by decide +kernel) rfl
theorem wi_303_46 : ri (rt_P sc fm) 303 46 (.getfield 18) (49) := ri_of (by decide +kernel) rfl
theorem wi_303_49 : ri (rt_P sc fm) 303 49 (.iconst 0) (50) := ri_of (by decide +kernel) rfl
theorem wi_303_5 : ri (rt_P sc fm) 303 5 (.isub) (6) := ri_of (by decide +kernel) rfl
theorem wi_303_50 : ri (rt_P sc fm) 303 50 (.iconst 4) (51) := ri_of (by decide +kernel) rfl
theorem wi_303_51 : ri (rt_P sc fm) 303 51 (.iastore) (52) := ri_of (by decide +kernel) rfl
theorem wi_303_52 : ri (rt_P sc fm) 303 52 (.return_) (53) := ri_of (by decide +kernel) rfl
theorem wi_303_53 : ri (rt_P sc fm) 303 53 (.aload_n 0) (54) := ri_of (by decide +kernel) rfl
theorem wi_303_54 : ri (rt_P sc fm) 303 54 (.getfield 38) (57) := ri_of (by decide +kernel) rfl
theorem wi_303_57 : ri (rt_P sc fm) 303 57 (.getfield 128) (60) := ri_of (by decide +kernel) rfl
theorem wi_303_6 : ri (rt_P sc fm) 303 6 (.istore_n 1) (7) := ri_of (by decide +kernel) rfl
theorem wi_303_60 : ri (rt_P sc fm) 303 60 (.iload_n 2) (61) := ri_of (by decide +kernel) rfl
theorem wi_303_61 : ri (rt_P sc fm) 303 61 (.iaload) (62) := ri_of (by decide +kernel) rfl
theorem wi_303_62 : ri (rt_P sc fm) 303 62 (.sipush 220) (65) := ri_of (by decide +kernel) rfl
theorem wi_303_65 : ri (rt_P sc fm) 303 65 (.if_icmp .ne 20) (68) := ri_of (by decide +kernel) rfl
theorem wi_303_68 : ri (rt_P sc fm) 303 68 (.aload_n 0) (69) := ri_of (by decide +kernel) rfl
theorem wi_303_69 : ri (rt_P sc fm) 303 69 (.getfield 99) (72) := ri_of (by decide +kernel) rfl
theorem wi_303_7 : ri (rt_P sc fm) 303 7 (.aload_n 0) (8) := ri_of (by decide +kernel) rfl
theorem wi_303_72 : ri (rt_P sc fm) 303 72 (.bipush 12) (74) := ri_of (by decide +kernel) rfl
theorem wi_303_74 : ri (rt_P sc fm) 303 74 (.if_icmp .lt 11) (77) := ri_of (by decide +kernel) rfl
theorem wi_303_77 : ri (rt_P sc fm) 303 77 (.aload_n 0) (78) := ri_of (by decide +kernel) rfl
theorem wi_303_78 : ri (rt_P sc fm) 303 78 (.getfield 18) (81) := ri_of (by decide +kernel) rfl
theorem wi_303_8 : ri (rt_P sc fm) 303 8 (.getfield 38) (11) := ri_of (by decide +kernel) rfl
theorem wi_303_81 : ri (rt_P sc fm) 303 81 (.iconst 0) (82) := ri_of (by decide +kernel) rfl
theorem wi_303_82 : ri (rt_P sc fm) 303 82 (.iconst 3) (83) := ri_of (by decide +kernel) rfl
theorem wi_303_83 : ri (rt_P sc fm) 303 83 (.iastore) (84) := ri_of (by decide +kernel) rfl
theorem wi_303_84 : ri (rt_P sc fm) 303 84 (.return_) (85) := ri_of (by decide +kernel) rfl
theorem wi_303_85 : ri (rt_P sc fm) 303 85 (.aload_n 0) (86) := ri_of (by decide +kernel) rfl
theorem wi_303_86 : ri (rt_P sc fm) 303 86 (.iload_n 1) (87) := ri_of (by decide +kernel) rfl
theorem wi_303_87 : ri (rt_P sc fm) 303 87 (.iload_n 2) (88) := ri_of (by decide +kernel) rfl
theorem wi_303_88 : ri (rt_P sc fm) 303 88 (.invokevirtual 131) (91) := ri_of (by decide +kernel) rfl
theorem wi_303_91 : ri (rt_P sc fm) 303 91 (.aload_n 0) (92) := ri_of (by decide +kernel) rfl
theorem wi_303_92 : ri (rt_P sc fm) 303 92 (.getfield 18) (95) := ri_of (by decide +kernel) rfl
theorem wi_303_95 : ri (rt_P sc fm) 303 95 (.iconst 2) (96) := ri_of (by decide +kernel) rfl
theorem wi_303_96 : ri (rt_P sc fm) 303 96 (.dup2) (97) := ri_of (by decide +kernel) rfl
theorem wi_303_97 : ri (rt_P sc fm) 303 97 (.iaload) (98) := ri_of (by decide +kernel) rfl
theorem wi_303_98 : ri (rt_P sc fm) 303 98 (.iconst 1) (99) := ri_of (by decide +kernel) rfl
theorem wi_303_99 : ri (rt_P sc fm) 303 99 (.iadd) (100) := ri_of (by decide +kernel) rfl
theorem wm_304 : rx_ml (rt_P sc fm) 304 = 1 := (by decide +kernel : rt_ml 304 = 1)
theorem wm_307 : rx_ml (rt_P sc fm) 307 = 4 := (by decide +kernel : rt_ml 307 = 4)
theorem wm_308 : rx_ml (rt_P sc fm) 308 = 6 := (by decide +kernel : rt_ml 308 = 6)
theorem wm_310 : rx_ml (rt_P sc fm) 310 = 5 := (by decide +kernel : rt_ml 310 = 5)
theorem wm_311 : rx_ml (rt_P sc fm) 311 = 7 := (by decide +kernel : rt_ml 311 = 7)
theorem wm_312 : rx_ml (rt_P sc fm) 312 = 5 := (by decide +kernel : rt_ml 312 = 5)
theorem wm_313 : rx_ml (rt_P sc fm) 313 = 5 := (by decide +kernel : rt_ml 313 = 5)
theorem wr_303 : rx_rt (rt_P sc fm) 303 = none := (by decide +kernel : rt_rt 303 = none)
/-- MarkHouse$Run.goOneAct()V -/
def d_303 (n : Nat)  (c : cS) : Option (cS) :=
  lt (((c.1 159 10) - 1) : Int32) (fun v2 =>
  if ib v2 12 then
  if ib (c.1 163 (ix v2)) 96 then
  if ib v2 12 then
  lt (((c.1 119 (ix (c.1 163 (ix v2)))) + (c.1 164 (ix v2))) : Int32) (fun v8 =>
  jn (fun p10 : cS =>
    if ib v8 1024 then
    jn (fun p12 : Unit =>
      Option.bind (d_308 n v2 v8 p10) (fun r13 =>
      if ib 2 12 then
      if ib 2 12 then
      lt (pI r13 162 (ix 2) ((r13.1 162 (ix 2)) + 1)) (fun c16 =>
      if ib v8 1024 then
      jn (fun p19 : cS =>
        some p19)
      (fun j221 =>
      if (c16.1 121 (ix v8)) = 220 then
        Option.bind (d_310 n v2 v8 c16) (fun r36 =>
        j221 r36)
      else
        if ib v8 1024 then
        if (c16.1 121 (ix v8)) = 221 then
          Option.bind (d_311 n v2 v8 c16) (fun r35 =>
          j221 r35)
        else
          if ib v8 1024 then
          Option.bind (d_304 n (c16.1 121 (ix v8))) (fun v22 =>
          if v22 = 0 then
            Option.bind (d_313 n (v2 * 16) v8 c16) (fun r23 =>
            if ib v2 12 then
            if ib v2 12 then
            lt (pI r23 164 (ix v2) ((r23.1 164 (ix v2)) + 1)) (fun c26 =>
            j221 c26)
            else none
            else none)
          else
            Option.bind (d_312 n v2 v8 c16) (fun v28 =>
            jn (fun p29 : Int32 =>
              if ib v2 12 then
              lt (pI c16 164 (ix v2) p29) (fun c31 =>
              j221 c31)
              else none)
            (fun j198 =>
            if v28 = 0 then
              if ib v2 12 then
              j198 ((c16.1 164 (ix v2)) + 1)
              else none
            else
              if ib v8 1024 then
              j198 (c16.1 124 (ix v8))
              else none)))
          else none
        else none)
      else none)
      else none
      else none))
    (fun j85 =>
    if (p10.1 121 (ix v8)) = 220 then
      if (p10.1 159 10) < 12 then
        j85 ()
      else
        if ib 0 12 then
        lt (pI p10 162 (ix 0) 3) (fun c38 =>
        some c38)
        else none
    else
      j85 ())
    else none)
  (fun j53 =>
  if (c.1 159 12) = 0 then
    j53 c
  else
    Option.bind (d_307 n v2 v8 c) (fun r40 =>
    if r40.1 = 0 then
      if ib 0 12 then
      lt (pI r40.2 162 (ix 0) 4) (fun c42 =>
      some c42)
      else none
    else
      j53 r40.2)))
  else none
  else none
  else none)
set_option maxRecDepth 100000 in
set_option maxHeartbeats 4000000 in
theorem sp_303 {F Lo n : Nat}  {c y : cS} {w : cW} {K : cS → Prop} {Q : ((Option Value) ⊕ String) → List va_E → Prop} (hw : rOK fm w) (hF : 4 ≤ F) (hLo : 96 ≤ Lo)  (h : wp (d_303 n  c) K) (hQ : ∀ r, K r → Q (.inl none) (hq true r y w)) : rs (rt_P sc fm) 303 F Lo 0 [(0, .ref 159)] [] (hq true c y w) Q := by
  unfold d_303 at h
  obtain ⟨lv, elv⟩ : ∃ lv : rx_L, lv = [(0, .ref 159)] := ⟨_, rfl⟩
  rw [← elv]
  have l0 : rx_ld lv 0 = some (.ref 159) := by rw [elv]; rfl
  refine rs_aldn wi_303_0 l0 ?_
  refine dq_gi wi_303_1 wf_303_99 tf_159_10 ?_
  refine rs_pure wi_303_4 rfl ?_
  refine rs_topi (v := 1) (by decide) ?_
  refine rs_pure wi_303_5 rfl ?_
  obtain ⟨v2, e3, h⟩ := wp_lt h
  refine rs_topi e3 ?_
  refine dl_istn wi_303_6 rfl (fun lv l1 t1 => ?_)
  have l0 := t1 _ _ (by decide) (Or.inl rfl) l0
  refine rs_aldn wi_303_7 l0 ?_
  refine dq_gr wi_303_8 wf_303_38 tf_159_1 ?_
  refine dq_gr wi_303_11 wf_303_121 tf_114_5 ?_
  refine rs_aldn wi_303_14 l0 ?_
  refine dq_gr wi_303_15 wf_303_21 tf_159_7 ?_
  refine rs_ildn wi_303_18 l1 ?_
  obtain ⟨g4, h⟩ := wp_gd h
  refine dq_iald wi_303_19 t_163 g4 ?_
  obtain ⟨g5, h⟩ := wp_gd h
  refine dq_iald wi_303_20 t_119 g5 ?_
  refine rs_aldn wi_303_21 l0 ?_
  refine dq_gr wi_303_22 wf_303_24 tf_159_8 ?_
  refine rs_ildn wi_303_25 l1 ?_
  obtain ⟨g6, h⟩ := wp_gd h
  refine dq_iald wi_303_26 t_164 g6 ?_
  refine rs_pure wi_303_27 rfl ?_
  obtain ⟨v8, e9, h⟩ := wp_lt h
  refine rs_topi e9 ?_
  refine dl_istn wi_303_28 rfl (fun lv l2 t7 => ?_)
  have l0 := t7 _ _ (by decide) (Or.inl rfl) l0
  have l1 := t7 _ _ (by decide) (Or.inl rfl) l1
  refine rs_aldn wi_303_29 l0 ?_
  refine dq_gi wi_303_30 wf_303_70 tf_159_12 ?_
  refine wp_jn (B := fun p10 : cS => ∀ lv, rx_ld lv 0 = some (.ref 159) → rx_ld lv 1 = some (.int v2) → rx_ld lv 2 = some (.int v8) → rs (rt_P sc fm) 303 F Lo 53 lv [] (hq true p10 y w) Q) h (fun p10 h lv l0 l1 l2 => ?_) (fun j53 hj53 h => ?_)
  ·
    refine rs_aldn wi_303_53 l0 ?_
    refine dq_gr wi_303_54 wf_303_38 tf_159_1 ?_
    refine dq_gr wi_303_57 wf_303_128 tf_114_8 ?_
    refine rs_ildn wi_303_60 l2 ?_
    obtain ⟨g11, h⟩ := wp_gd h
    refine dq_iald wi_303_61 t_121 g11 ?_
    refine rs_pure wi_303_62 rfl ?_
    refine rs_topi (v := 220) (by decide) ?_
    refine wp_jn (B := fun p12 : Unit => ∀ lv, rx_ld lv 0 = some (.ref 159) → rx_ld lv 1 = some (.int v2) → rx_ld lv 2 = some (.int v8) → rs (rt_P sc fm) 303 F Lo 85 lv [] (hq true p10 y w) Q) h (fun p12 h lv l0 l1 l2 => ?_) (fun j85 hj85 h => ?_)
    ·
      refine rs_aldn wi_303_85 l0 ?_
      refine rs_ildn wi_303_86 l1 ?_
      refine rs_ildn wi_303_87 l2 ?_
      refine rs_V wi_303_88 wc_303_131 rfl (dq_isa tf_159_0 wa_11_308) (Nat.le_trans (by decide) hF) (ml_le wm_308 (Nat.le_trans (by decide) hLo)) rfl (sp_308 hw (Nat.le_trans (by decide : 3 ≤ 4 - 1) (Nat.sub_le_sub_right hF 1)) (ml_sub wm_308 (Nat.le_trans (by decide : 71 ≤ 96 - 25) (Nat.sub_le_sub_right hLo 25))) (wp_bind h) (fun r13 h => rs_back0 ?_))
      refine rs_aldn wi_303_91 l0 ?_
      refine dq_gr wi_303_92 wf_303_18 tf_159_6 ?_
      refine rs_pure wi_303_95 rfl ?_
      refine rs_topi (v := 2) (by decide) ?_
      refine rs_pure wi_303_96 rfl ?_
      obtain ⟨g14, h⟩ := wp_gd h
      refine dq_iald wi_303_97 t_162 g14 ?_
      refine rs_pure wi_303_98 rfl ?_
      refine rs_topi (v := 1) (by decide) ?_
      refine rs_pure wi_303_99 rfl ?_
      obtain ⟨g15, h⟩ := wp_gd h
      obtain ⟨c16, e17, h⟩ := wp_lt h
      refine dq_iast wi_303_100 t_162 g15 e17 ?_
      refine rs_aldn wi_303_101 l0 ?_
      refine dq_gr wi_303_102 wf_303_38 tf_159_1 ?_
      refine dq_gr wi_303_105 wf_303_128 tf_114_8 ?_
      refine rs_ildn wi_303_108 l2 ?_
      obtain ⟨g18, h⟩ := wp_gd h
      refine dq_iald wi_303_109 t_121 g18 ?_
      refine rs_pure wi_303_110 rfl ?_
      refine rs_topi (v := 220) (by decide) ?_
      refine wp_jn (B := fun p19 : cS => ∀ lv, rs (rt_P sc fm) 303 F Lo 221 lv [] (hq true p19 y w) Q) h (fun p19 h lv => ?_) (fun j221 hj221 h => ?_)
      ·
        exact rs_vret wi_303_221 wr_303 (hQ p19 h)
      refine rs_icne (tg := 125) wi_303_113 ⟨by decide, by decide⟩ (fun q => ?_) (fun q => ?_)
      ·
        have h := wp_neg h q
        refine rs_aldn wi_303_125 l0 ?_
        refine dq_gr wi_303_126 wf_303_38 tf_159_1 ?_
        refine dq_gr wi_303_129 wf_303_128 tf_114_8 ?_
        refine rs_ildn wi_303_132 l2 ?_
        obtain ⟨g20, h⟩ := wp_gd h
        refine dq_iald wi_303_133 t_121 g20 ?_
        refine rs_pure wi_303_134 rfl ?_
        refine rs_topi (v := 221) (by decide) ?_
        refine rs_icne (tg := 149) wi_303_137 ⟨by decide, by decide⟩ (fun q => ?_) (fun q => ?_)
        ·
          have h := wp_neg h q
          refine rs_aldn wi_303_149 l0 ?_
          refine dq_gr wi_303_150 wf_303_38 tf_159_1 ?_
          refine dq_gr wi_303_153 wf_303_128 tf_114_8 ?_
          refine rs_ildn wi_303_156 l2 ?_
          obtain ⟨g21, h⟩ := wp_gd h
          refine dq_iald wi_303_157 t_121 g21 ?_
          refine rs_S wi_303_158 wc_303_141 (Or.inl rfl) rfl (Nat.le_trans (by decide) hF) (ml_le wm_304 (Nat.le_trans (by decide) hLo)) rfl (sp_304 (Nat.le_trans (by decide : 0 ≤ 4 - 1) (Nat.sub_le_sub_right hF 1)) (ml_sub wm_304 (Nat.le_trans (by decide : 0 ≤ 96 - 20) (Nat.sub_le_sub_right hLo 20))) (wp_bind h) (fun v22 h => rs_back1 ?_))
          refine rs_ifeq (tg := 202) wi_303_161 ⟨by decide, by decide⟩ (fun q => ?_) (fun q => ?_)
          ·
            have h := wp_pos h q
            refine rs_aldn wi_303_202 l0 ?_
            refine rs_ildn wi_303_203 l1 ?_
            refine rs_pure wi_303_204 rfl ?_
            refine rs_topi (v := 16) (by decide) ?_
            refine rs_pure wi_303_206 rfl ?_
            refine rs_ildn wi_303_207 l2 ?_
            refine rs_V wi_303_208 wc_303_151 rfl (dq_isa tf_159_0 wa_11_313) (Nat.le_trans (by decide) hF) (ml_le wm_313 (Nat.le_trans (by decide) hLo)) rfl (sp_313 hw (Nat.le_trans (by decide : 2 ≤ 4 - 1) (Nat.sub_le_sub_right hF 1)) (ml_sub wm_313 (Nat.le_trans (by decide : 55 ≤ 96 - 24) (Nat.sub_le_sub_right hLo 24))) (wp_bind h) (fun r23 h => rs_back0 ?_))
            refine rs_aldn wi_303_211 l0 ?_
            refine dq_gr wi_303_212 wf_303_24 tf_159_8 ?_
            refine rs_ildn wi_303_215 l1 ?_
            refine rs_pure wi_303_216 rfl ?_
            obtain ⟨g24, h⟩ := wp_gd h
            refine dq_iald wi_303_217 t_164 g24 ?_
            refine rs_pure wi_303_218 rfl ?_
            refine rs_topi (v := 1) (by decide) ?_
            refine rs_pure wi_303_219 rfl ?_
            obtain ⟨g25, h⟩ := wp_gd h
            obtain ⟨c26, e27, h⟩ := wp_lt h
            refine dq_iast wi_303_220 t_164 g25 e27 ?_
            exact hj221 _ h _
          ·
            have h := wp_neg h q
            refine rs_aldn wi_303_164 l0 ?_
            refine dq_gr wi_303_165 wf_303_24 tf_159_8 ?_
            refine rs_ildn wi_303_168 l1 ?_
            refine rs_aldn wi_303_169 l0 ?_
            refine rs_ildn wi_303_170 l1 ?_
            refine rs_ildn wi_303_171 l2 ?_
            refine rs_V wi_303_172 wc_303_145 rfl (dq_isa tf_159_0 wa_11_312) (Nat.le_trans (by decide) hF) (ml_le wm_312 (Nat.le_trans (by decide) hLo)) rfl (sp_312 hw (Nat.le_trans (by decide : 2 ≤ 4 - 1) (Nat.sub_le_sub_right hF 1)) (ml_sub wm_312 (Nat.le_trans (by decide : 46 ≤ 96 - 24) (Nat.sub_le_sub_right hLo 24))) (wp_bind h) (fun v28 h => rs_back1 ?_))
            refine wp_jn (B := fun p29 : Int32 => ∀ lv, rs (rt_P sc fm) 303 F Lo 198 lv [.int p29, .int v2, .ref 164] (hq true c16 y w) Q) h (fun p29 h lv => ?_) (fun j198 hj198 h => ?_)
            ·
              obtain ⟨g30, h⟩ := wp_gd h
              obtain ⟨c31, e32, h⟩ := wp_lt h
              refine dq_iast wi_303_198 t_164 g30 e32 ?_
              refine rs_goto (tg := 221) wi_303_199 ⟨by decide, by decide⟩ ?_
              exact hj221 _ h _
            refine rs_ifeq (tg := 190) wi_303_175 ⟨by decide, by decide⟩ (fun q => ?_) (fun q => ?_)
            ·
              have h := wp_pos h q
              refine rs_aldn wi_303_190 l0 ?_
              refine dq_gr wi_303_191 wf_303_24 tf_159_8 ?_
              refine rs_ildn wi_303_194 l1 ?_
              obtain ⟨g33, h⟩ := wp_gd h
              refine dq_iald wi_303_195 t_164 g33 ?_
              refine rs_pure wi_303_196 rfl ?_
              refine rs_topi (v := 1) (by decide) ?_
              refine rs_pure wi_303_197 rfl ?_
              exact hj198 _ h _
            ·
              have h := wp_neg h q
              refine rs_aldn wi_303_178 l0 ?_
              refine dq_gr wi_303_179 wf_303_38 tf_159_1 ?_
              refine dq_gr wi_303_182 wf_303_148 tf_114_11 ?_
              refine rs_ildn wi_303_185 l2 ?_
              obtain ⟨g34, h⟩ := wp_gd h
              refine dq_iald wi_303_186 t_124 g34 ?_
              refine rs_goto (tg := 198) wi_303_187 ⟨by decide, by decide⟩ ?_
              exact hj198 _ h _
        ·
          have h := wp_pos h q
          refine rs_aldn wi_303_140 l0 ?_
          refine rs_ildn wi_303_141 l1 ?_
          refine rs_ildn wi_303_142 l2 ?_
          refine rs_V wi_303_143 wc_303_138 rfl (dq_isa tf_159_0 wa_11_311) (Nat.le_trans (by decide) hF) (ml_le wm_311 (Nat.le_trans (by decide) hLo)) rfl (sp_311 hw (Nat.le_trans (by decide : 1 ≤ 4 - 1) (Nat.sub_le_sub_right hF 1)) (ml_sub wm_311 (Nat.le_trans (by decide : 21 ≤ 96 - 26) (Nat.sub_le_sub_right hLo 26))) (wp_bind h) (fun r35 h => rs_back0 ?_))
          refine rs_goto (tg := 221) wi_303_146 ⟨by decide, by decide⟩ ?_
          exact hj221 _ h _
      ·
        have h := wp_pos h q
        refine rs_aldn wi_303_116 l0 ?_
        refine rs_ildn wi_303_117 l1 ?_
        refine rs_ildn wi_303_118 l2 ?_
        refine rs_V wi_303_119 wc_303_135 rfl (dq_isa tf_159_0 wa_11_310) (Nat.le_trans (by decide) hF) (ml_le wm_310 (Nat.le_trans (by decide) hLo)) rfl (sp_310 hw (Nat.le_trans (by decide : 3 ≤ 4 - 1) (Nat.sub_le_sub_right hF 1)) (ml_sub wm_310 (Nat.le_trans (by decide : 68 ≤ 96 - 24) (Nat.sub_le_sub_right hLo 24))) (wp_bind h) (fun r36 h => rs_back0 ?_))
        refine rs_goto (tg := 221) wi_303_122 ⟨by decide, by decide⟩ ?_
        exact hj221 _ h _
    refine rs_icne (tg := 85) wi_303_65 ⟨by decide, by decide⟩ (fun q => ?_) (fun q => ?_)
    ·
      have h := wp_neg h q
      exact hj85 _ h _ l0 l1 l2
    ·
      have h := wp_pos h q
      refine rs_aldn wi_303_68 l0 ?_
      refine dq_gi wi_303_69 wf_303_99 tf_159_10 ?_
      refine rs_pure wi_303_72 rfl ?_
      refine rs_topi (v := 12) (by decide) ?_
      refine rs_iclt (tg := 85) wi_303_74 ⟨by decide, by decide⟩ (fun q => ?_) (fun q => ?_)
      ·
        have h := wp_pos h q
        exact hj85 _ h _ l0 l1 l2
      ·
        have h := wp_neg h q
        refine rs_aldn wi_303_77 l0 ?_
        refine dq_gr wi_303_78 wf_303_18 tf_159_6 ?_
        refine rs_pure wi_303_81 rfl ?_
        refine rs_topi (v := 0) (by decide) ?_
        refine rs_pure wi_303_82 rfl ?_
        refine rs_topi (v := 3) (by decide) ?_
        obtain ⟨g37, h⟩ := wp_gd h
        obtain ⟨c38, e39, h⟩ := wp_lt h
        refine dq_iast wi_303_83 t_162 g37 e39 ?_
        exact rs_vret wi_303_84 wr_303 (hQ c38 h)
  refine rs_ifeq (tg := 53) wi_303_33 ⟨by decide, by decide⟩ (fun q => ?_) (fun q => ?_)
  ·
    have h := wp_pos h q
    exact hj53 _ h _ l0 l1 l2
  ·
    have h := wp_neg h q
    refine rs_aldn wi_303_36 l0 ?_
    refine rs_ildn wi_303_37 l1 ?_
    refine rs_ildn wi_303_38 l2 ?_
    refine rs_V wi_303_39 wc_303_124 rfl (dq_isa tf_159_0 wa_11_307) (Nat.le_trans (by decide) hF) (ml_le wm_307 (Nat.le_trans (by decide) hLo)) rfl (sp_307 hw (Nat.le_trans (by decide : 3 ≤ 4 - 1) (Nat.sub_le_sub_right hF 1)) (ml_sub wm_307 (Nat.le_trans (by decide : 71 ≤ 96 - 23) (Nat.sub_le_sub_right hLo 23))) (wp_bind h) (fun r40 h => rs_back1 ?_))
    refine rs_ifne (tg := 53) wi_303_42 ⟨by decide, by decide⟩ (fun q => ?_) (fun q => ?_)
    ·
      have h := wp_neg h q
      exact hj53 _ h _ l0 l1 l2
    ·
      have h := wp_pos h q
      refine rs_aldn wi_303_45 l0 ?_
      refine dq_gr wi_303_46 wf_303_18 tf_159_6 ?_
      refine rs_pure wi_303_49 rfl ?_
      refine rs_topi (v := 0) (by decide) ?_
      refine rs_pure wi_303_50 rfl ?_
      refine rs_topi (v := 4) (by decide) ?_
      obtain ⟨g41, h⟩ := wp_gd h
      obtain ⟨c42, e43, h⟩ := wp_lt h
      refine dq_iast wi_303_51 t_162 g41 e43 ?_
      exact rs_vret wi_303_52 wr_303 (hQ c42 h)
theorem wa_11_303 : rz_cn 11 (rx_yn (rt_P sc fm) 303).cls = true := (by decide +kernel : rz_cn 11 (rt_yn 303).cls = true)
theorem wc_302_114 : rx_ct (rt_P sc fm) 302 114 = some (0, 49, 0) := (by decide +kernel : rt_ct 302 114 = some (0, 49, 0))
theorem wc_302_118 : rx_ct (rt_P sc fm) 302 118 = some (0, 303, 0) := (by decide +kernel : rt_ct 302 118 = some (0, 303, 0))
theorem wf_302_18 : rx_ft (rt_P sc fm) 302 18 = some (11, 6) := (by decide +kernel : rt_ft 302 18 = some (11, 6))
theorem wi_302_0 : ri (rt_P sc fm) 302 0 (.aload_n 0) (1) := ri_of (by decide +kernel) rfl
theorem wi_302_1 : ri (rt_P sc fm) 302 1 (.getfield 18) (4) := ri_of (by decide +kernel) rfl
theorem wi_302_10 : ri (rt_P sc fm) 302 10 (.iload_n 1) (11) := ri_of (by decide +kernel) rfl
theorem wi_302_11 : ri (rt_P sc fm) 302 11 (.if_icmp .ge 20) (14) := ri_of (by decide +kernel) rfl
theorem wi_302_14 : ri (rt_P sc fm) 302 14 (.aload_n 0) (15) := ri_of (by decide +kernel) rfl
theorem wi_302_15 : ri (rt_P sc fm) 302 15 (.invokevirtual 114) (18) := ri_of (by decide +kernel) rfl
theorem wi_302_18 : ri (rt_P sc fm) 302 18 (.ifCond .eq 13) (21) := ri_of (by decide +kernel) rfl
theorem wi_302_21 : ri (rt_P sc fm) 302 21 (.aload_n 0) (22) := ri_of (by decide +kernel) rfl
theorem wi_302_22 : ri (rt_P sc fm) 302 22 (.invokevirtual 118) (25) := ri_of (by decide +kernel) rfl
theorem wi_302_25 : ri (rt_P sc fm) 302 25 (.iinc 3 1) (28) := ri_of (by decide +kernel) rfl
theorem wi_302_28 : ri (rt_P sc fm) 302 28 (.goto (-19)) (31) := ri_of (by decide +kernel) rfl
theorem wi_302_31 : ri (rt_P sc fm) 302 31 (.aload_n 0) (32) := ri_of (by decide +kernel) rfl
theorem wi_302_32 : ri (rt_P sc fm) 302 32 (.getfield 18) (35) := ri_of (by decide +kernel) rfl
theorem wi_302_35 : ri (rt_P sc fm) 302 35 (.iconst 2) (36) := ri_of (by decide +kernel) rfl
theorem wi_302_36 : ri (rt_P sc fm) 302 36 (.iaload) (37) := ri_of (by decide +kernel) rfl
theorem wi_302_37 : ri (rt_P sc fm) 302 37 (.iload_n 2) (38) := ri_of (by decide +kernel) rfl
theorem wi_302_38 : ri (rt_P sc fm) 302 38 (.isub) (39) := ri_of (by decide +kernel) rfl
theorem wi_302_39 : ri (rt_P sc fm) 302 39 (.ireturn) (40) := ri_of (by decide +kernel) rfl
theorem wi_302_4 : ri (rt_P sc fm) 302 4 (.iconst 2) (5) := ri_of (by decide +kernel) rfl
theorem wi_302_5 : ri (rt_P sc fm) 302 5 (.iaload) (6) := ri_of (by decide +kernel) rfl
theorem wi_302_6 : ri (rt_P sc fm) 302 6 (.istore_n 2) (7) := ri_of (by decide +kernel) rfl
theorem wi_302_7 : ri (rt_P sc fm) 302 7 (.iconst 0) (8) := ri_of (by decide +kernel) rfl
theorem wi_302_8 : ri (rt_P sc fm) 302 8 (.istore_n 3) (9) := ri_of (by decide +kernel) rfl
theorem wi_302_9 : ri (rt_P sc fm) 302 9 (.iload_n 3) (10) := ri_of (by decide +kernel) rfl
theorem wm_303 : rx_ml (rt_P sc fm) 303 = 3 := (by decide +kernel : rt_ml 303 = 3)
theorem wr_302 : rx_rt (rt_P sc fm) 302 = (some FieldType.int) := (by decide +kernel : rt_rt 302 = (some FieldType.int))
/-- MarkHouse$Run.goOn(I)I -/
def d_302 (n : Nat) (a1 : Int32) (c : cS) : Option (Int32 × cS) :=
  if ib 2 12 then
  lt ((c.1 162 (ix 2)) : Int32) (fun v3 =>
  Option.bind (whl (R := (cS)) (fun s6 : Int32 × cS =>
    if a1 ≤ s6.1 then
      some (.inr s6.2)
    else
      Option.bind (d_49 n s6.2) (fun v7 =>
      if v7 = 0 then
        some (.inr s6.2)
      else
        Option.bind (d_303 n s6.2) (fun r8 =>
        lt (s6.1 + 1 : Int32) (fun v10 =>
        some (.inl (v10, r8)))))) n (0, c))
  (fun x12 : cS =>
    if ib 2 12 then
    some (((x12.1 162 (ix 2)) - v3), x12)
    else none))
  else none
set_option maxRecDepth 100000 in
set_option maxHeartbeats 4000000 in
theorem sp_302 {F Lo n : Nat} {a1 : Int32} {c y : cS} {w : cW} {K : Int32 × cS → Prop} {Q : ((Option Value) ⊕ String) → List va_E → Prop} (hw : rOK fm w) (hF : 5 ≤ F) (hLo : 118 ≤ Lo)  (h : wp (d_302 n a1 c) K) (hQ : ∀ r, K r → Q (.inl (some (.int r.1))) (hq true r.2 y w)) : rs (rt_P sc fm) 302 F Lo 0 [(0, .ref 159), (1, .int a1)] [] (hq true c y w) Q := by
  unfold d_302 at h
  obtain ⟨lv, elv⟩ : ∃ lv : rx_L, lv = [(0, .ref 159), (1, .int a1)] := ⟨_, rfl⟩
  rw [← elv]
  have l0 : rx_ld lv 0 = some (.ref 159) := by rw [elv]; rfl
  have l1 : rx_ld lv 1 = some (.int a1) := by rw [elv]; rfl
  refine rs_aldn wi_302_0 l0 ?_
  refine dq_gr wi_302_1 wf_302_18 tf_159_6 ?_
  refine rs_pure wi_302_4 rfl ?_
  refine rs_topi (v := 2) (by decide) ?_
  obtain ⟨g1, h⟩ := wp_gd h
  refine dq_iald wi_302_5 t_162 g1 ?_
  obtain ⟨v3, e4, h⟩ := wp_lt h
  refine rs_topi e4 ?_
  refine dl_istn wi_302_6 rfl (fun lv l2 t2 => ?_)
  have l0 := t2 _ _ (by decide) (Or.inl rfl) l0
  have l1 := t2 _ _ (by decide) (Or.inl rfl) l1
  refine rs_pure wi_302_7 rfl ?_
  refine rs_topi (v := 0) (by decide) ?_
  refine dl_istn wi_302_8 rfl (fun lv l3 t5 => ?_)
  have l0 := t5 _ _ (by decide) (Or.inl rfl) l0
  have l1 := t5 _ _ (by decide) (Or.inl rfl) l1
  have l2 := t5 _ _ (by decide) (Or.inl rfl) l2
  refine whl_ex (A := fun s6 : Int32 × cS => ∀ lv, rx_ld lv 0 = some (.ref 159) → rx_ld lv 1 = some (.int a1) → rx_ld lv 2 = some (.int v3) → rx_ld lv 3 = some (.int s6.1) → rs (rt_P sc fm) 302 F Lo 9 lv [] (hq true s6.2 y w) Q) (B := (fun x12 : cS => ∀ lv, rx_ld lv 0 = some (.ref 159) → rx_ld lv 2 = some (.int v3) → rs (rt_P sc fm) 302 F Lo 31 lv [] (hq true x12 y w) Q)) ?_ ?_ _ _ (wp_bind h) _ l0 l1 l2 l3
  · intro s6 h lv l0 l1 l2 l3
    refine rs_ildn wi_302_9 l3 ?_
    refine rs_ildn wi_302_10 l1 ?_
    refine rs_icge (tg := 31) wi_302_11 ⟨by decide, by decide⟩ (fun q => ?_) (fun q => ?_)
    ·
      have h := wp_pos h q
      exact h _ l0 l2
    ·
      have h := wp_neg h q
      refine rs_aldn wi_302_14 l0 ?_
      refine rs_V wi_302_15 wc_302_114 rfl (dq_isa tf_159_0 wa_11_49) (Nat.le_trans (by decide) hF) (ml_le wm_49 (Nat.le_trans (by decide) hLo)) rfl (sp_49 hw (Nat.le_trans (by decide : 0 ≤ 5 - 1) (Nat.sub_le_sub_right hF 1)) (ml_sub wm_49 (Nat.le_trans (by decide : 0 ≤ 118 - 20) (Nat.sub_le_sub_right hLo 20))) (wp_bind h) (fun v7 h => rs_back1 ?_))
      refine rs_ifeq (tg := 31) wi_302_18 ⟨by decide, by decide⟩ (fun q => ?_) (fun q => ?_)
      ·
        have h := wp_pos h q
        exact h _ l0 l2
      ·
        have h := wp_neg h q
        refine rs_aldn wi_302_21 l0 ?_
        refine rs_V wi_302_22 wc_302_118 rfl (dq_isa tf_159_0 wa_11_303) (Nat.le_trans (by decide) hF) (ml_le wm_303 (Nat.le_trans (by decide) hLo)) rfl (sp_303 hw (Nat.le_trans (by decide : 4 ≤ 5 - 1) (Nat.sub_le_sub_right hF 1)) (ml_sub wm_303 (Nat.le_trans (by decide : 96 ≤ 118 - 22) (Nat.sub_le_sub_right hLo 22))) (wp_bind h) (fun r8 h => rs_back0 ?_))
        obtain ⟨v10, e11, h⟩ := wp_lt h
        refine dl_inc wi_302_25 l3 rfl e11 (fun lv l3 t9 => ?_)
        have l0 := t9 _ _ (by decide) (Or.inl rfl) l0
        have l1 := t9 _ _ (by decide) (Or.inl rfl) l1
        have l2 := t9 _ _ (by decide) (Or.inl rfl) l2
        refine rs_goto (tg := 9) wi_302_28 ⟨by decide, by decide⟩ ?_
        exact h _ l0 l1 l2 l3
  ·
    intro x12 h lv l0 l2
    refine rs_aldn wi_302_31 l0 ?_
    refine dq_gr wi_302_32 wf_302_18 tf_159_6 ?_
    refine rs_pure wi_302_35 rfl ?_
    refine rs_topi (v := 2) (by decide) ?_
    obtain ⟨g13, h⟩ := wp_gd h
    refine dq_iald wi_302_36 t_162 g13 ?_
    refine rs_ildn wi_302_37 l2 ?_
    refine rs_pure wi_302_38 rfl ?_
    exact rs_iret wi_302_39 wr_302 rfl (hQ (((x12.1 162 (ix 2)) - v3), x12) h)
theorem wa_11_302 : rz_cn 11 (rx_yn (rt_P sc fm) 302).cls = true := (by decide +kernel : rz_cn 11 (rt_yn 302).cls = true)
theorem wc_85_359 : rx_ct (rt_P sc fm) 85 359 = some (0, 49, 0) := (by decide +kernel : rt_ct 85 359 = some (0, 49, 0))
theorem wc_85_365 : rx_ct (rt_P sc fm) 85 365 = some (0, 302, 1) := (by decide +kernel : rt_ct 85 365 = some (0, 302, 1))
theorem wf_85_69 : rx_ft (rt_P sc fm) 85 69 = some (14, 7) := (by decide +kernel : rt_ft 85 69 = some (14, 7))
theorem wi_85_0 : ri (rt_P sc fm) 85 0 (.iload_n 1) (1) := ri_of (by decide +kernel) rfl
theorem wi_85_1 : ri (rt_P sc fm) 85 1 (.iconst 1) (2) := ri_of (by decide +kernel) rfl
theorem wi_85_2 : ri (rt_P sc fm) 85 2 (.if_icmp .lt 10) (5) := ri_of (by decide +kernel) rfl
theorem wi_85_23 : ri (rt_P sc fm) 85 23 (.aload_n 0) (24) := ri_of (by decide +kernel) rfl
theorem wi_85_24 : ri (rt_P sc fm) 85 24 (.getfield 69) (27) := ri_of (by decide +kernel) rfl
theorem wi_85_27 : ri (rt_P sc fm) 85 27 (.invokevirtual 359) (30) := ri_of (by decide +kernel) rfl
theorem wi_85_30 : ri (rt_P sc fm) 85 30 (.ifCond .ne 14) (33) := ri_of (by decide +kernel) rfl
theorem wi_85_44 : ri (rt_P sc fm) 85 44 (.aload_n 0) (45) := ri_of (by decide +kernel) rfl
theorem wi_85_45 : ri (rt_P sc fm) 85 45 (.getfield 69) (48) := ri_of (by decide +kernel) rfl
theorem wi_85_48 : ri (rt_P sc fm) 85 48 (.iload_n 1) (49) := ri_of (by decide +kernel) rfl
theorem wi_85_49 : ri (rt_P sc fm) 85 49 (.invokevirtual 365) (52) := ri_of (by decide +kernel) rfl
theorem wi_85_5 : ri (rt_P sc fm) 85 5 (.iload_n 1) (6) := ri_of (by decide +kernel) rfl
theorem wi_85_52 : ri (rt_P sc fm) 85 52 (.ireturn) (53) := ri_of (by decide +kernel) rfl
theorem wi_85_6 : ri (rt_P sc fm) 85 6 (.sipush 10000) (9) := ri_of (by decide +kernel) rfl
theorem wi_85_9 : ri (rt_P sc fm) 85 9 (.if_icmp .le 14) (12) := ri_of (by decide +kernel) rfl
theorem wm_302 : rx_ml (rt_P sc fm) 302 = 4 := (by decide +kernel : rt_ml 302 = 4)
theorem wr_85 : rx_rt (rt_P sc fm) 85 = (some FieldType.int) := (by decide +kernel : rt_rt 85 = (some FieldType.int))
theorem wx_85_12 : rx_xt (rt_P sc fm) 85 12 = some ("java/lang/IllegalArgumentException", 5, 82) := (by decide +kernel : rt_xt 85 12 = some ("java/lang/IllegalArgumentException", 5, 82))
theorem wx_85_33 : rx_xt (rt_P sc fm) 85 33 = some ("java/lang/IllegalStateException", 5, 82) := (by decide +kernel : rt_xt 85 33 = some ("java/lang/IllegalStateException", 5, 82))
/-- MarkHouse.go(I)I -/
def d_85 (n : Nat) (a1 : Int32) (c : cS) : Option ((Int32 × cS) ⊕ (Nat × cS)) :=
  jn (fun p1 : Unit =>
    some (.inr (0, c)))
  (fun j12 =>
  if a1 < 1 then
    j12 ()
  else
    if a1 ≤ 10000 then
      Option.bind (d_49 n c) (fun v2 =>
      if v2 = 0 then
        some (.inr (1, c))
      else
        Option.bind (d_302 n a1 c) (fun r3 =>
        some (.inl (r3.1, r3.2))))
    else
      j12 ())
set_option maxRecDepth 100000 in
set_option maxHeartbeats 4000000 in
theorem sp_85 {F Lo n : Nat} {a1 : Int32} {c y : cS} {w : cW} {K : (Int32 × cS) ⊕ (Nat × cS) → Prop} {Q : ((Option Value) ⊕ String) → List va_E → Prop} (hw : rOK fm w) (hF : 6 ≤ F) (hLo : 141 ≤ Lo)  (h : wp (d_85 n a1 c) K) (hQ : ∀ r, K (.inl r) → Q (.inl (some (.int r.1))) (hq true r.2 y w)) (hT : ∀ r, K (.inr r) → Q (.inr (exn r.1)) (hq true r.2 y w)) : rs (rt_P sc fm) 85 F Lo 0 [(0, .ref 0), (1, .int a1)] [] (hq true c y w) Q := by
  unfold d_85 at h
  obtain ⟨lv, elv⟩ : ∃ lv : rx_L, lv = [(0, .ref 0), (1, .int a1)] := ⟨_, rfl⟩
  rw [← elv]
  have l0 : rx_ld lv 0 = some (.ref 0) := by rw [elv]; rfl
  have l1 : rx_ld lv 1 = some (.int a1) := by rw [elv]; rfl
  refine rs_ildn wi_85_0 l1 ?_
  refine rs_pure wi_85_1 rfl ?_
  refine rs_topi (v := 1) (by decide) ?_
  refine wp_jn (B := fun p1 : Unit => ∀ lv, rs (rt_P sc fm) 85 F Lo 12 lv [] (hq true c y w) Q) h (fun p1 h lv => ?_) (fun j12 hj12 h => ?_)
  ·
    exact rs_throw wx_85_12 (Nat.le_trans (by decide) hF) (Nat.le_trans (by decide) hLo) (hT (0, c) h)
  refine rs_iclt (tg := 12) wi_85_2 ⟨by decide, by decide⟩ (fun q => ?_) (fun q => ?_)
  ·
    have h := wp_pos h q
    exact hj12 _ h _
  ·
    have h := wp_neg h q
    refine rs_ildn wi_85_5 l1 ?_
    refine rs_pure wi_85_6 rfl ?_
    refine rs_topi (v := 10000) (by decide) ?_
    refine rs_icle (tg := 23) wi_85_9 ⟨by decide, by decide⟩ (fun q => ?_) (fun q => ?_)
    ·
      have h := wp_pos h q
      refine rs_aldn wi_85_23 l0 ?_
      refine dq_gr wi_85_24 wf_85_69 tf_0_7 ?_
      refine rs_V wi_85_27 wc_85_359 rfl (dq_isa tf_159_0 wa_11_49) (Nat.le_trans (by decide) hF) (ml_le wm_49 (Nat.le_trans (by decide) hLo)) rfl (sp_49 hw (Nat.le_trans (by decide : 0 ≤ 6 - 1) (Nat.sub_le_sub_right hF 1)) (ml_sub wm_49 (Nat.le_trans (by decide : 0 ≤ 141 - 20) (Nat.sub_le_sub_right hLo 20))) (wp_bind h) (fun v2 h => rs_back1 ?_))
      refine rs_ifne (tg := 44) wi_85_30 ⟨by decide, by decide⟩ (fun q => ?_) (fun q => ?_)
      ·
        have h := wp_neg h q
        refine rs_aldn wi_85_44 l0 ?_
        refine dq_gr wi_85_45 wf_85_69 tf_0_7 ?_
        refine rs_ildn wi_85_48 l1 ?_
        refine rs_V wi_85_49 wc_85_365 rfl (dq_isa tf_159_0 wa_11_302) (Nat.le_trans (by decide) hF) (ml_le wm_302 (Nat.le_trans (by decide) hLo)) rfl (sp_302 hw (Nat.le_trans (by decide : 5 ≤ 6 - 1) (Nat.sub_le_sub_right hF 1)) (ml_sub wm_302 (Nat.le_trans (by decide : 118 ≤ 141 - 23) (Nat.sub_le_sub_right hLo 23))) (wp_bind h) (fun r3 h => rs_back1 ?_))
        exact rs_iret wi_85_52 wr_85 rfl (hQ (r3.1, r3.2) h)
      ·
        have h := wp_pos h q
        exact rs_throw wx_85_33 (Nat.le_trans (by decide) hF) (Nat.le_trans (by decide) hLo) (hT (1, c) h)
    ·
      have h := wp_neg h q
      exact hj12 _ h _
theorem wa_11_50 : rz_cn 11 (rx_yn (rt_P sc fm) 50).cls = true := (by decide +kernel : rz_cn 11 (rt_yn 50).cls = true)
theorem wc_86_368 : rx_ct (rt_P sc fm) 86 368 = some (0, 50, 1) := (by decide +kernel : rt_ct 86 368 = some (0, 50, 1))
theorem wf_86_69 : rx_ft (rt_P sc fm) 86 69 = some (14, 7) := (by decide +kernel : rt_ft 86 69 = some (14, 7))
theorem wi_86_0 : ri (rt_P sc fm) 86 0 (.aload_n 0) (1) := ri_of (by decide +kernel) rfl
theorem wi_86_1 : ri (rt_P sc fm) 86 1 (.getfield 69) (4) := ri_of (by decide +kernel) rfl
theorem wi_86_4 : ri (rt_P sc fm) 86 4 (.iload_n 1) (5) := ri_of (by decide +kernel) rfl
theorem wi_86_5 : ri (rt_P sc fm) 86 5 (.invokevirtual 368) (8) := ri_of (by decide +kernel) rfl
theorem wi_86_8 : ri (rt_P sc fm) 86 8 (.ireturn) (9) := ri_of (by decide +kernel) rfl
theorem wm_50 : rx_ml (rt_P sc fm) 50 = 3 := (by decide +kernel : rt_ml 50 = 3)
theorem wr_86 : rx_rt (rt_P sc fm) 86 = (some FieldType.int) := (by decide +kernel : rt_rt 86 = (some FieldType.int))
/-- MarkHouse.run(I)I -/
def d_86 (n : Nat) (a1 : Int32) (c : cS) : Option (Int32) :=
  Option.bind (d_50 n a1 c) (fun v1 =>
  some v1)
set_option maxRecDepth 100000 in
set_option maxHeartbeats 4000000 in
theorem sp_86 {F Lo n : Nat} {a1 : Int32} {c y : cS} {w : cW} {K : Int32 → Prop} {Q : ((Option Value) ⊕ String) → List va_E → Prop} (hw : rOK fm w) (hF : 2 ≤ F) (hLo : 43 ≤ Lo)  (h : wp (d_86 n a1 c) K) (hQ : ∀ r, K r → Q (.inl (some (.int r))) (hq true c y w)) : rs (rt_P sc fm) 86 F Lo 0 [(0, .ref 0), (1, .int a1)] [] (hq true c y w) Q := by
  unfold d_86 at h
  obtain ⟨lv, elv⟩ : ∃ lv : rx_L, lv = [(0, .ref 0), (1, .int a1)] := ⟨_, rfl⟩
  rw [← elv]
  have l0 : rx_ld lv 0 = some (.ref 0) := by rw [elv]; rfl
  have l1 : rx_ld lv 1 = some (.int a1) := by rw [elv]; rfl
  refine rs_aldn wi_86_0 l0 ?_
  refine dq_gr wi_86_1 wf_86_69 tf_0_7 ?_
  refine rs_ildn wi_86_4 l1 ?_
  refine rs_V wi_86_5 wc_86_368 rfl (dq_isa tf_159_0 wa_11_50) (Nat.le_trans (by decide) hF) (ml_le wm_50 (Nat.le_trans (by decide) hLo)) rfl (sp_50 hw (Nat.le_trans (by decide : 1 ≤ 2 - 1) (Nat.sub_le_sub_right hF 1)) (ml_sub wm_50 (Nat.le_trans (by decide : 21 ≤ 43 - 22) (Nat.sub_le_sub_right hLo 22))) (wp_bind h) (fun v1 h => rs_back1 ?_))
  exact rs_iret wi_86_8 wr_86 rfl (hQ v1 h)
theorem wc_316_154 : rx_ct (rt_P sc fm) 316 154 = some (11, 355, 2) := (by decide +kernel : rt_ct 316 154 = some (11, 355, 2))
theorem wf_316_18 : rx_ft (rt_P sc fm) 316 18 = some (11, 6) := (by decide +kernel : rt_ft 316 18 = some (11, 6))
theorem wf_316_207 : rx_ft (rt_P sc fm) 316 207 = some (11, 13) := (by decide +kernel : rt_ft 316 207 = some (11, 13))
theorem wi_316_0 : ri (rt_P sc fm) 316 0 (.aload_n 0) (1) := ri_of (by decide +kernel) rfl
theorem wi_316_1 : ri (rt_P sc fm) 316 1 (.getfield 18) (4) := ri_of (by decide +kernel) rfl
theorem wi_316_10 : ri (rt_P sc fm) 316 10 (.aload_n 0) (11) := ri_of (by decide +kernel) rfl
theorem wi_316_11 : ri (rt_P sc fm) 316 11 (.getfield 207) (14) := ri_of (by decide +kernel) rfl
theorem wi_316_14 : ri (rt_P sc fm) 316 14 (.bipush 8) (16) := ri_of (by decide +kernel) rfl
theorem wi_316_16 : ri (rt_P sc fm) 316 16 (.iload_n 1) (17) := ri_of (by decide +kernel) rfl
theorem wi_316_17 : ri (rt_P sc fm) 316 17 (.iadd) (18) := ri_of (by decide +kernel) rfl
theorem wi_316_18 : ri (rt_P sc fm) 316 18 (.invokestatic 154) (21) := ri_of (by decide +kernel) rfl
theorem wi_316_21 : ri (rt_P sc fm) 316 21 (.goto 4) (24) := ri_of (by decide +kernel) rfl
theorem wi_316_24 : ri (rt_P sc fm) 316 24 (.iconst (-1)) (25) := ri_of (by decide +kernel) rfl
theorem wi_316_25 : ri (rt_P sc fm) 316 25 (.ireturn) (26) := ri_of (by decide +kernel) rfl
theorem wi_316_4 : ri (rt_P sc fm) 316 4 (.iconst 0) (5) := ri_of (by decide +kernel) rfl
theorem wi_316_5 : ri (rt_P sc fm) 316 5 (.iaload) (6) := ri_of (by decide +kernel) rfl
theorem wi_316_6 : ri (rt_P sc fm) 316 6 (.iconst 2) (7) := ri_of (by decide +kernel) rfl
theorem wi_316_7 : ri (rt_P sc fm) 316 7 (.if_icmp .ne 17) (10) := ri_of (by decide +kernel) rfl
theorem wr_316 : rx_rt (rt_P sc fm) 316 = (some FieldType.int) := (by decide +kernel : rt_rt 316 = (some FieldType.int))
/-- MarkHouse$Run.truthOf(I)I -/
def d_316 (n : Nat) (a1 : Int32) (c : cS) : Option (Int32) :=
  if ib 0 12 then
  jn (fun p2 : Int32 =>
    some p2)
  (fun j25 =>
  if (c.1 162 (ix 0)) = 2 then
    Option.bind (d_355 n (c.2 159 13) (8 + a1)) (fun v3 =>
    j25 v3)
  else
    j25 (-1))
  else none
set_option maxRecDepth 100000 in
set_option maxHeartbeats 4000000 in
theorem sp_316 {F Lo n : Nat} {a1 : Int32} {c y : cS} {w : cW} {K : Int32 → Prop} {Q : ((Option Value) ⊕ String) → List va_E → Prop} (hw : rOK fm w) (hF : 1 ≤ F) (hLo : 22 ≤ Lo)  (h : wp (d_316 n a1 c) K) (hQ : ∀ r, K r → Q (.inl (some (.int r))) (hq true c y w)) : rs (rt_P sc fm) 316 F Lo 0 [(0, .ref 159), (1, .int a1)] [] (hq true c y w) Q := by
  unfold d_316 at h
  obtain ⟨lv, elv⟩ : ∃ lv : rx_L, lv = [(0, .ref 159), (1, .int a1)] := ⟨_, rfl⟩
  rw [← elv]
  have l0 : rx_ld lv 0 = some (.ref 159) := by rw [elv]; rfl
  have l1 : rx_ld lv 1 = some (.int a1) := by rw [elv]; rfl
  refine rs_aldn wi_316_0 l0 ?_
  refine dq_gr wi_316_1 wf_316_18 tf_159_6 ?_
  refine rs_pure wi_316_4 rfl ?_
  refine rs_topi (v := 0) (by decide) ?_
  obtain ⟨g1, h⟩ := wp_gd h
  refine dq_iald wi_316_5 t_162 g1 ?_
  refine rs_pure wi_316_6 rfl ?_
  refine rs_topi (v := 2) (by decide) ?_
  refine wp_jn (B := fun p2 : Int32 => ∀ lv, rs (rt_P sc fm) 316 F Lo 25 lv [.int p2] (hq true c y w) Q) h (fun p2 h lv => ?_) (fun j25 hj25 h => ?_)
  ·
    exact rs_iret wi_316_25 wr_316 rfl (hQ p2 h)
  refine rs_icne (tg := 24) wi_316_7 ⟨by decide, by decide⟩ (fun q => ?_) (fun q => ?_)
  ·
    have h := wp_neg h q
    refine rs_pure wi_316_24 rfl ?_
    refine rs_topi (v := (-1)) (by decide) ?_
    exact hj25 _ h _
  ·
    have h := wp_pos h q
    refine rs_aldn wi_316_10 l0 ?_
    refine dq_gl wi_316_11 wf_316_207 tf_159_13 ?_
    refine rs_pure wi_316_14 rfl ?_
    refine rs_topi (v := 8) (by decide) ?_
    refine rs_ildn wi_316_16 l1 ?_
    refine rs_pure wi_316_17 rfl ?_
    refine rs_SN wi_316_18 wc_316_154 rfl (Nat.le_trans (by decide) hF) (ml_le wm_355 (Nat.le_trans (by decide) hLo)) rfl (sp_355 (Nat.le_trans (by decide : 0 ≤ 1 - 1) (Nat.sub_le_sub_right hF 1)) (ml_sub wm_355 (Nat.le_trans (by decide : 0 ≤ 22 - 22) (Nat.sub_le_sub_right hLo 22))) (wp_bind h) (fun v3 h => rs_back1 ?_))
    refine rs_goto (tg := 25) wi_316_21 ⟨by decide, by decide⟩ ?_
    exact hj25 _ h _
theorem wa_11_316 : rz_cn 11 (rx_yn (rt_P sc fm) 316).cls = true := (by decide +kernel : rz_cn 11 (rt_yn 316).cls = true)
theorem wc_87_170 : rx_ct (rt_P sc fm) 87 170 = some (0, 37, 1) := (by decide +kernel : rt_ct 87 170 = some (0, 37, 1))
theorem wc_87_371 : rx_ct (rt_P sc fm) 87 371 = some (0, 316, 1) := (by decide +kernel : rt_ct 87 371 = some (0, 316, 1))
theorem wf_87_19 : rx_ft (rt_P sc fm) 87 19 = some (14, 1) := (by decide +kernel : rt_ft 87 19 = some (14, 1))
theorem wf_87_69 : rx_ft (rt_P sc fm) 87 69 = some (14, 7) := (by decide +kernel : rt_ft 87 69 = some (14, 7))
theorem wi_87_0 : ri (rt_P sc fm) 87 0 (.aload_n 0) (1) := ri_of (by decide +kernel) rfl
theorem wi_87_1 : ri (rt_P sc fm) 87 1 (.getfield 19) (4) := ri_of (by decide +kernel) rfl
theorem wi_87_11 : ri (rt_P sc fm) 87 11 (.aload_n 0) (12) := ri_of (by decide +kernel) rfl
theorem wi_87_12 : ri (rt_P sc fm) 87 12 (.getfield 69) (15) := ri_of (by decide +kernel) rfl
theorem wi_87_15 : ri (rt_P sc fm) 87 15 (.iload_n 1) (16) := ri_of (by decide +kernel) rfl
theorem wi_87_16 : ri (rt_P sc fm) 87 16 (.invokevirtual 371) (19) := ri_of (by decide +kernel) rfl
theorem wi_87_19 : ri (rt_P sc fm) 87 19 (.goto 4) (22) := ri_of (by decide +kernel) rfl
theorem wi_87_22 : ri (rt_P sc fm) 87 22 (.iconst (-1)) (23) := ri_of (by decide +kernel) rfl
theorem wi_87_23 : ri (rt_P sc fm) 87 23 (.ireturn) (24) := ri_of (by decide +kernel) rfl
theorem wi_87_4 : ri (rt_P sc fm) 87 4 (.iload_n 1) (5) := ri_of (by decide +kernel) rfl
theorem wi_87_5 : ri (rt_P sc fm) 87 5 (.invokevirtual 170) (8) := ri_of (by decide +kernel) rfl
theorem wi_87_8 : ri (rt_P sc fm) 87 8 (.ifCond .eq 14) (11) := ri_of (by decide +kernel) rfl
theorem wm_316 : rx_ml (rt_P sc fm) 316 = 2 := (by decide +kernel : rt_ml 316 = 2)
theorem wr_87 : rx_rt (rt_P sc fm) 87 = (some FieldType.int) := (by decide +kernel : rt_rt 87 = (some FieldType.int))
/-- MarkHouse.truth(I)I -/
def d_87 (n : Nat) (a1 : Int32) (c : cS) : Option (Int32) :=
  Option.bind (d_37 n a1 c) (fun v1 =>
  jn (fun p2 : Int32 =>
    some p2)
  (fun j23 =>
  if v1 = 0 then
    j23 (-1)
  else
    Option.bind (d_316 n a1 c) (fun v3 =>
    j23 v3)))
set_option maxRecDepth 100000 in
set_option maxHeartbeats 4000000 in
theorem sp_87 {F Lo n : Nat} {a1 : Int32} {c y : cS} {w : cW} {K : Int32 → Prop} {Q : ((Option Value) ⊕ String) → List va_E → Prop} (hw : rOK fm w) (hF : 2 ≤ F) (hLo : 43 ≤ Lo)  (h : wp (d_87 n a1 c) K) (hQ : ∀ r, K r → Q (.inl (some (.int r))) (hq true c y w)) : rs (rt_P sc fm) 87 F Lo 0 [(0, .ref 0), (1, .int a1)] [] (hq true c y w) Q := by
  unfold d_87 at h
  obtain ⟨lv, elv⟩ : ∃ lv : rx_L, lv = [(0, .ref 0), (1, .int a1)] := ⟨_, rfl⟩
  rw [← elv]
  have l0 : rx_ld lv 0 = some (.ref 0) := by rw [elv]; rfl
  have l1 : rx_ld lv 1 = some (.int a1) := by rw [elv]; rfl
  refine rs_aldn wi_87_0 l0 ?_
  refine dq_gr wi_87_1 wf_87_19 tf_0_1 ?_
  refine rs_ildn wi_87_4 l1 ?_
  refine rs_V wi_87_5 wc_87_170 rfl (dq_isa tf_7_0 wa_9_37) (Nat.le_trans (by decide) hF) (ml_le wm_37 (Nat.le_trans (by decide) hLo)) rfl (sp_37 hw (Nat.le_trans (by decide : 0 ≤ 2 - 1) (Nat.sub_le_sub_right hF 1)) (ml_sub wm_37 (Nat.le_trans (by decide : 0 ≤ 43 - 21) (Nat.sub_le_sub_right hLo 21))) (wp_bind h) (fun v1 h => rs_back1 ?_))
  refine wp_jn (B := fun p2 : Int32 => ∀ lv, rs (rt_P sc fm) 87 F Lo 23 lv [.int p2] (hq true c y w) Q) h (fun p2 h lv => ?_) (fun j23 hj23 h => ?_)
  ·
    exact rs_iret wi_87_23 wr_87 rfl (hQ p2 h)
  refine rs_ifeq (tg := 22) wi_87_8 ⟨by decide, by decide⟩ (fun q => ?_) (fun q => ?_)
  ·
    have h := wp_pos h q
    refine rs_pure wi_87_22 rfl ?_
    refine rs_topi (v := (-1)) (by decide) ?_
    exact hj23 _ h _
  ·
    have h := wp_neg h q
    refine rs_aldn wi_87_11 l0 ?_
    refine dq_gr wi_87_12 wf_87_69 tf_0_7 ?_
    refine rs_ildn wi_87_15 l1 ?_
    refine rs_V wi_87_16 wc_87_371 rfl (dq_isa tf_159_0 wa_11_316) (Nat.le_trans (by decide) hF) (ml_le wm_316 (Nat.le_trans (by decide) hLo)) rfl (sp_316 hw (Nat.le_trans (by decide : 1 ≤ 2 - 1) (Nat.sub_le_sub_right hF 1)) (ml_sub wm_316 (Nat.le_trans (by decide : 22 ≤ 43 - 21) (Nat.sub_le_sub_right hLo 21))) (wp_bind h) (fun v3 h => rs_back1 ?_))
    refine rs_goto (tg := 23) wi_87_19 ⟨by decide, by decide⟩ ?_
    exact hj23 _ h _
theorem tf_167_1 : fo true 167 13 1 (.ref 133) := ⟨_, rfl, rfl, by decide, by decide⟩
theorem tf_167_2 : fo true 167 13 2 (.ref 146) := ⟨_, rfl, rfl, by decide, by decide⟩
theorem wc_346_102 : rx_ct (rt_P sc fm) 346 102 = some (0, 232, 3) := (by decide +kernel : rt_ct 346 102 = some (0, 232, 3))
theorem wc_346_108 : rx_ct (rt_P sc fm) 346 108 = some (0, 233, 3) := (by decide +kernel : rt_ct 346 108 = some (0, 233, 3))
theorem wc_346_94 : rx_ct (rt_P sc fm) 346 94 = some (0, 218, 1) := (by decide +kernel : rt_ct 346 94 = some (0, 218, 1))
theorem wc_346_99 : rx_ct (rt_P sc fm) 346 99 = some (0, 185, 2) := (by decide +kernel : rt_ct 346 99 = some (0, 185, 2))
theorem wf_346_33 : rx_ft (rt_P sc fm) 346 33 = some (13, 0) := (by decide +kernel : rt_ft 346 33 = some (13, 0))
theorem wf_346_37 : rx_ft (rt_P sc fm) 346 37 = some (13, 1) := (by decide +kernel : rt_ft 346 37 = some (13, 1))
theorem wf_346_41 : rx_ft (rt_P sc fm) 346 41 = some (13, 2) := (by decide +kernel : rt_ft 346 41 = some (13, 2))
theorem wf_346_90 : rx_ft (rt_P sc fm) 346 90 = some (9, 3) := (by decide +kernel : rt_ft 346 90 = some (9, 3))
theorem wi_346_0 : ri (rt_P sc fm) 346 0 (.aload_n 0) (1) := ri_of (by decide +kernel) rfl
theorem wi_346_1 : ri (rt_P sc fm) 346 1 (.getfield 33) (4) := ri_of (by decide +kernel) rfl
theorem wi_346_11 : ri (rt_P sc fm) 346 11 (.aload 5) (13) := ri_of (by decide +kernel) rfl
theorem wi_346_13 : ri (rt_P sc fm) 346 13 (.lload_n 2) (14) := ri_of (by decide +kernel) rfl
theorem wi_346_14 : ri (rt_P sc fm) 346 14 (.invokevirtual 94) (17) := ri_of (by decide +kernel) rfl
theorem wi_346_17 : ri (rt_P sc fm) 346 17 (.istore 6) (19) := ri_of (by decide +kernel) rfl
theorem wi_346_19 : ri (rt_P sc fm) 346 19 (.aload_n 0) (20) := ri_of (by decide +kernel) rfl
theorem wi_346_20 : ri (rt_P sc fm) 346 20 (.getfield 41) (23) := ri_of (by decide +kernel) rfl
theorem wi_346_23 : ri (rt_P sc fm) 346 23 (.iload_n 1) (24) := ri_of (by decide +kernel) rfl
theorem wi_346_24 : ri (rt_P sc fm) 346 24 (.iconst 0) (25) := ri_of (by decide +kernel) rfl
theorem wi_346_25 : ri (rt_P sc fm) 346 25 (.invokevirtual 99) (28) := ri_of (by decide +kernel) rfl
theorem wi_346_28 : ri (rt_P sc fm) 346 28 (.istore 7) (30) := ri_of (by decide +kernel) rfl
theorem wi_346_30 : ri (rt_P sc fm) 346 30 (.iload 6) (32) := ri_of (by decide +kernel) rfl
theorem wi_346_32 : ri (rt_P sc fm) 346 32 (.ifCond .lt 26) (35) := ri_of (by decide +kernel) rfl
theorem wi_346_35 : ri (rt_P sc fm) 346 35 (.iload 7) (37) := ri_of (by decide +kernel) rfl
theorem wi_346_37 : ri (rt_P sc fm) 346 37 (.ifCond .lt 21) (40) := ri_of (by decide +kernel) rfl
theorem wi_346_4 : ri (rt_P sc fm) 346 4 (.getfield 90) (7) := ri_of (by decide +kernel) rfl
theorem wi_346_40 : ri (rt_P sc fm) 346 40 (.aload_n 0) (41) := ri_of (by decide +kernel) rfl
theorem wi_346_41 : ri (rt_P sc fm) 346 41 (.getfield 37) (44) := ri_of (by decide +kernel) rfl
theorem wi_346_44 : ri (rt_P sc fm) 346 44 (.iload 7) (46) := ri_of (by decide +kernel) rfl
theorem wi_346_46 : ri (rt_P sc fm) 346 46 (.aload 5) (48) := ri_of (by decide +kernel) rfl
theorem wi_346_48 : ri (rt_P sc fm) 346 48 (.iload 6) (50) := ri_of (by decide +kernel) rfl
theorem wi_346_50 : ri (rt_P sc fm) 346 50 (.invokevirtual 102) (53) := ri_of (by decide +kernel) rfl
theorem wi_346_53 : ri (rt_P sc fm) 346 53 (.iload 4) (55) := ri_of (by decide +kernel) rfl
theorem wi_346_55 : ri (rt_P sc fm) 346 55 (.if_icmp .eq 5) (58) := ri_of (by decide +kernel) rfl
theorem wi_346_58 : ri (rt_P sc fm) 346 58 (.lconst 0) (59) := ri_of (by decide +kernel) rfl
theorem wi_346_59 : ri (rt_P sc fm) 346 59 (.lreturn) (60) := ri_of (by decide +kernel) rfl
theorem wi_346_60 : ri (rt_P sc fm) 346 60 (.aload_n 0) (61) := ri_of (by decide +kernel) rfl
theorem wi_346_61 : ri (rt_P sc fm) 346 61 (.getfield 37) (64) := ri_of (by decide +kernel) rfl
theorem wi_346_64 : ri (rt_P sc fm) 346 64 (.iload 7) (66) := ri_of (by decide +kernel) rfl
theorem wi_346_66 : ri (rt_P sc fm) 346 66 (.aload 5) (68) := ri_of (by decide +kernel) rfl
theorem wi_346_68 : ri (rt_P sc fm) 346 68 (.iload 6) (70) := ri_of (by decide +kernel) rfl
theorem wi_346_7 : ri (rt_P sc fm) 346 7 (.iload_n 1) (8) := ri_of (by decide +kernel) rfl
theorem wi_346_70 : ri (rt_P sc fm) 346 70 (.invokevirtual 108) (73) := ri_of (by decide +kernel) rfl
theorem wi_346_73 : ri (rt_P sc fm) 346 73 (.lreturn) (74) := ri_of (by decide +kernel) rfl
theorem wi_346_8 : ri (rt_P sc fm) 346 8 (.aaload) (9) := ri_of (by decide +kernel) rfl
theorem wi_346_9 : ri (rt_P sc fm) 346 9 (.astore 5) (11) := ri_of (by decide +kernel) rfl
theorem wr_346 : rx_rt (rt_P sc fm) 346 = (some FieldType.long) := (by decide +kernel : rt_rt 346 = (some FieldType.long))
/-- MarkHouse$Wiring.valueOf(IJI)J -/
def d_346 (n : Nat) (a1 : Int32) (a2 : Int64) (a4 : Int32) (c : cS) : Option (Int64) :=
  if ib a1 12 then
  Option.bind (d_218 n (ix a1) a2 c) (fun v3 =>
  Option.bind (d_185 n a1 0 c) (fun v5 =>
  jn (fun p7 : Unit =>
    some 0)
  (fun j58 =>
  if v3 < 0 then
    j58 ()
  else
    if v5 < 0 then
      j58 ()
    else
      Option.bind (d_232 n v5 (ix a1) v3 c) (fun v8 =>
      if v8 = a4 then
        Option.bind (d_233 n v5 (ix a1) v3 c) (fun v9 =>
        some v9)
      else
        j58 ()))))
  else none
set_option maxRecDepth 100000 in
set_option maxHeartbeats 4000000 in
theorem sp_346 {F Lo n : Nat} {a1 : Int32} {a2 : Int64} {a4 : Int32} {c y : cS} {w : cW} {K : Int64 → Prop} {Q : ((Option Value) ⊕ String) → List va_E → Prop} (hw : rOK fm w) (hF : 2 ≤ F) (hLo : 48 ≤ Lo)  (h : wp (d_346 n a1 a2 a4 c) K) (hQ : ∀ r, K r → Q (.inl (some (.long r))) (hq true c y w)) : rs (rt_P sc fm) 346 F Lo 0 [(0, .ref 167), (1, .int a1), (2, .long a2), (4, .int a4)] [] (hq true c y w) Q := by
  unfold d_346 at h
  obtain ⟨lv, elv⟩ : ∃ lv : rx_L, lv = [(0, .ref 167), (1, .int a1), (2, .long a2), (4, .int a4)] := ⟨_, rfl⟩
  rw [← elv]
  have l0 : rx_ld lv 0 = some (.ref 167) := by rw [elv]; rfl
  have l1 : rx_ld lv 1 = some (.int a1) := by rw [elv]; rfl
  have l2 : rx_ld lv 2 = some (.long a2) := by rw [elv]; rfl
  have l4 : rx_ld lv 4 = some (.int a4) := by rw [elv]; rfl
  refine rs_aldn wi_346_0 l0 ?_
  refine dq_gr wi_346_1 wf_346_33 tf_167_0 ?_
  refine dq_gr wi_346_4 wf_346_90 tf_7_3 ?_
  refine rs_ildn wi_346_7 l1 ?_
  obtain ⟨g1, h⟩ := wp_gd h
  refine dq_aald wi_346_8 (by decide) t_9 g1 (hw.2.1 _ (ib_lt g1)) ?_
  refine dl_ast wi_346_9 rfl (fun lv l5 t2 => ?_)
  have l0 := t2 _ _ (by decide) (Or.inl rfl) l0
  have l1 := t2 _ _ (by decide) (Or.inl rfl) l1
  have l2 := t2 _ _ (by decide) (Or.inr (by decide)) l2
  have l4 := t2 _ _ (by decide) (Or.inl rfl) l4
  refine rs_ald wi_346_11 l5 ?_
  refine rs_lldn wi_346_13 l2 ?_
  refine rs_V wi_346_14 wc_346_94 rfl (dq_isa (fK_0 (ib_lt g1)) wa_6_218) (Nat.le_trans (by decide) hF) (ml_le wm_218 (Nat.le_trans (by decide) hLo)) rfl (sp_218 hw (Nat.le_trans (by decide : 0 ≤ 2 - 1) (Nat.sub_le_sub_right hF 1)) (ml_sub wm_218 (Nat.le_trans (by decide : 0 ≤ 48 - 23) (Nat.sub_le_sub_right hLo 23))) (ib_lt g1) (wp_bind h) (fun v3 h => rs_back1 ?_))
  refine dl_ist wi_346_17 rfl (fun lv l6 t4 => ?_)
  have l0 := t4 _ _ (by decide) (Or.inl rfl) l0
  have l1 := t4 _ _ (by decide) (Or.inl rfl) l1
  have l4 := t4 _ _ (by decide) (Or.inl rfl) l4
  have l5 := t4 _ _ (by decide) (Or.inl rfl) l5
  refine rs_aldn wi_346_19 l0 ?_
  refine dq_gr wi_346_20 wf_346_41 tf_167_2 ?_
  refine rs_ildn wi_346_23 l1 ?_
  refine rs_pure wi_346_24 rfl ?_
  refine rs_topi (v := 0) (by decide) ?_
  refine rs_V wi_346_25 wc_346_99 rfl (dq_isa tf_146_0 wa_4_185) (Nat.le_trans (by decide) hF) (ml_le wm_185 (Nat.le_trans (by decide) hLo)) rfl (sp_185 hw (Nat.le_trans (by decide : 1 ≤ 2 - 1) (Nat.sub_le_sub_right hF 1)) (ml_sub wm_185 (Nat.le_trans (by decide : 21 ≤ 48 - 25) (Nat.sub_le_sub_right hLo 25))) (wp_bind h) (fun v5 h => rs_back1 ?_))
  refine dl_ist wi_346_28 rfl (fun lv l7 t6 => ?_)
  have l0 := t6 _ _ (by decide) (Or.inl rfl) l0
  have l4 := t6 _ _ (by decide) (Or.inl rfl) l4
  have l5 := t6 _ _ (by decide) (Or.inl rfl) l5
  have l6 := t6 _ _ (by decide) (Or.inl rfl) l6
  refine rs_ild wi_346_30 l6 ?_
  refine wp_jn (B := fun p7 : Unit => ∀ lv, rs (rt_P sc fm) 346 F Lo 58 lv [] (hq true c y w) Q) h (fun p7 h lv => ?_) (fun j58 hj58 h => ?_)
  ·
    refine rs_pure wi_346_58 rfl ?_
    refine rs_topl (v := 0) (by decide) ?_
    exact rs_lret wi_346_59 wr_346 (hQ 0 h)
  refine rs_iflt (tg := 58) wi_346_32 ⟨by decide, by decide⟩ (fun q => ?_) (fun q => ?_)
  ·
    have h := wp_pos h q
    exact hj58 _ h _
  ·
    have h := wp_neg h q
    refine rs_ild wi_346_35 l7 ?_
    refine rs_iflt (tg := 58) wi_346_37 ⟨by decide, by decide⟩ (fun q => ?_) (fun q => ?_)
    ·
      have h := wp_pos h q
      exact hj58 _ h _
    ·
      have h := wp_neg h q
      refine rs_aldn wi_346_40 l0 ?_
      refine dq_gr wi_346_41 wf_346_37 tf_167_1 ?_
      refine rs_ild wi_346_44 l7 ?_
      refine rs_ald wi_346_46 l5 ?_
      refine rs_ild wi_346_48 l6 ?_
      refine rs_V wi_346_50 wc_346_102 rfl (dq_isa tf_133_0 wa_7_232) (Nat.le_trans (by decide) hF) (ml_le wm_232 (Nat.le_trans (by decide) hLo)) rfl (sp_232 hw (Nat.le_trans (by decide : 1 ≤ 2 - 1) (Nat.sub_le_sub_right hF 1)) (ml_sub wm_232 (Nat.le_trans (by decide : 24 ≤ 48 - 24) (Nat.sub_le_sub_right hLo 24))) (ib_lt g1) (wp_bind h) (fun v8 h => rs_back1 ?_))
      refine rs_ild wi_346_53 l4 ?_
      refine rs_iceq (tg := 60) wi_346_55 ⟨by decide, by decide⟩ (fun q => ?_) (fun q => ?_)
      ·
        have h := wp_pos h q
        refine rs_aldn wi_346_60 l0 ?_
        refine dq_gr wi_346_61 wf_346_37 tf_167_1 ?_
        refine rs_ild wi_346_64 l7 ?_
        refine rs_ald wi_346_66 l5 ?_
        refine rs_ild wi_346_68 l6 ?_
        refine rs_V wi_346_70 wc_346_108 rfl (dq_isa tf_133_0 wa_7_233) (Nat.le_trans (by decide) hF) (ml_le wm_233 (Nat.le_trans (by decide) hLo)) rfl (sp_233 hw (Nat.le_trans (by decide : 1 ≤ 2 - 1) (Nat.sub_le_sub_right hF 1)) (ml_sub wm_233 (Nat.le_trans (by decide : 24 ≤ 48 - 24) (Nat.sub_le_sub_right hLo 24))) (ib_lt g1) (wp_bind h) (fun v9 h => rs_back1 ?_))
        exact rs_lret wi_346_73 wr_346 (hQ v9 h)
      ·
        have h := wp_neg h q
        exact hj58 _ h _
theorem wa_13_346 : rz_cn 13 (rx_yn (rt_P sc fm) 346).cls = true := (by decide +kernel : rz_cn 13 (rt_yn 346).cls = true)
theorem wc_345_86 : rx_ct (rt_P sc fm) 345 86 = some (0, 346, 3) := (by decide +kernel : rt_ct 345 86 = some (0, 346, 3))
theorem wi_345_0 : ri (rt_P sc fm) 345 0 (.aload_n 0) (1) := ri_of (by decide +kernel) rfl
theorem wi_345_1 : ri (rt_P sc fm) 345 1 (.iload_n 1) (2) := ri_of (by decide +kernel) rfl
theorem wi_345_2 : ri (rt_P sc fm) 345 2 (.lload_n 2) (3) := ri_of (by decide +kernel) rfl
theorem wi_345_3 : ri (rt_P sc fm) 345 3 (.iconst 2) (4) := ri_of (by decide +kernel) rfl
theorem wi_345_4 : ri (rt_P sc fm) 345 4 (.invokevirtual 86) (7) := ri_of (by decide +kernel) rfl
theorem wi_345_7 : ri (rt_P sc fm) 345 7 (.lreturn) (8) := ri_of (by decide +kernel) rfl
theorem wm_346 : rx_ml (rt_P sc fm) 346 = 8 := (by decide +kernel : rt_ml 346 = 8)
theorem wr_345 : rx_rt (rt_P sc fm) 345 = (some FieldType.long) := (by decide +kernel : rt_rt 345 = (some FieldType.long))
/-- MarkHouse$Wiring.textOf(IJ)J -/
def d_345 (n : Nat) (a1 : Int32) (a2 : Int64) (c : cS) : Option (Int64) :=
  Option.bind (d_346 n a1 a2 2 c) (fun v1 =>
  some v1)
set_option maxRecDepth 100000 in
set_option maxHeartbeats 4000000 in
theorem sp_345 {F Lo n : Nat} {a1 : Int32} {a2 : Int64} {c y : cS} {w : cW} {K : Int64 → Prop} {Q : ((Option Value) ⊕ String) → List va_E → Prop} (hw : rOK fm w) (hF : 3 ≤ F) (hLo : 75 ≤ Lo)  (h : wp (d_345 n a1 a2 c) K) (hQ : ∀ r, K r → Q (.inl (some (.long r))) (hq true c y w)) : rs (rt_P sc fm) 345 F Lo 0 [(0, .ref 167), (1, .int a1), (2, .long a2)] [] (hq true c y w) Q := by
  unfold d_345 at h
  obtain ⟨lv, elv⟩ : ∃ lv : rx_L, lv = [(0, .ref 167), (1, .int a1), (2, .long a2)] := ⟨_, rfl⟩
  rw [← elv]
  have l0 : rx_ld lv 0 = some (.ref 167) := by rw [elv]; rfl
  have l1 : rx_ld lv 1 = some (.int a1) := by rw [elv]; rfl
  have l2 : rx_ld lv 2 = some (.long a2) := by rw [elv]; rfl
  refine rs_aldn wi_345_0 l0 ?_
  refine rs_ildn wi_345_1 l1 ?_
  refine rs_lldn wi_345_2 l2 ?_
  refine rs_pure wi_345_3 rfl ?_
  refine rs_topi (v := 2) (by decide) ?_
  refine rs_V wi_345_4 wc_345_86 rfl (dq_isa tf_167_0 wa_13_346) (Nat.le_trans (by decide) hF) (ml_le wm_346 (Nat.le_trans (by decide) hLo)) rfl (sp_346 hw (Nat.le_trans (by decide : 2 ≤ 3 - 1) (Nat.sub_le_sub_right hF 1)) (ml_sub wm_346 (Nat.le_trans (by decide : 48 ≤ 75 - 27) (Nat.sub_le_sub_right hLo 27))) (wp_bind h) (fun v1 h => rs_back1 ?_))
  exact rs_lret wi_345_7 wr_345 (hQ v1 h)
theorem t_168 : ta true 168 3 12 := ⟨rfl, by decide, by decide⟩
theorem t_169 : ta true 169 1 12 := ⟨rfl, by decide, by decide⟩
theorem t_170 : ta true 170 0 12 := ⟨rfl, by decide, by decide⟩
theorem tf_167_3 : fo true 167 13 3 (.ref 168) := ⟨_, rfl, rfl, by decide, by decide⟩
theorem tf_167_4 : fo true 167 13 4 (.ref 169) := ⟨_, rfl, rfl, by decide, by decide⟩
theorem tf_167_5 : fo true 167 13 5 (.ref 170) := ⟨_, rfl, rfl, by decide, by decide⟩
theorem wsb_44 : (rt_sb 44).isSome = true := by decide +kernel
theorem wsb_45 : (rt_sb 45).isSome = true := by decide +kernel
theorem wa_13_345 : rz_cn 13 (rx_yn (rt_P sc fm) 345).cls = true := (by decide +kernel : rz_cn 13 (rt_yn 345).cls = true)
theorem wc_344_56 : rx_ct (rt_P sc fm) 344 56 = some (11, 351, 1) := (by decide +kernel : rt_ct 344 56 = some (11, 351, 1))
theorem wc_344_60 : rx_ct (rt_P sc fm) 344 60 = some (0, 248, 1) := (by decide +kernel : rt_ct 344 60 = some (0, 248, 1))
theorem wc_344_75 : rx_ct (rt_P sc fm) 344 75 = some (0, 180, 2) := (by decide +kernel : rt_ct 344 75 = some (0, 180, 2))
theorem wc_344_82 : rx_ct (rt_P sc fm) 344 82 = some (0, 345, 2) := (by decide +kernel : rt_ct 344 82 = some (0, 345, 2))
theorem wf_344_15 : rx_ft (rt_P sc fm) 344 15 = some (13, 4) := (by decide +kernel : rt_ft 344 15 = some (13, 4))
theorem wf_344_19 : rx_ft (rt_P sc fm) 344 19 = some (13, 5) := (by decide +kernel : rt_ft 344 19 = some (13, 5))
theorem wf_344_33 : rx_ft (rt_P sc fm) 344 33 = some (13, 0) := (by decide +kernel : rt_ft 344 33 = some (13, 0))
theorem wf_344_41 : rx_ft (rt_P sc fm) 344 41 = some (13, 2) := (by decide +kernel : rt_ft 344 41 = some (13, 2))
theorem wf_344_66 : rx_ft (rt_P sc fm) 344 66 = some (9, 10) := (by decide +kernel : rt_ft 344 66 = some (9, 10))
theorem wf_344_9 : rx_ft (rt_P sc fm) 344 9 = some (13, 3) := (by decide +kernel : rt_ft 344 9 = some (13, 3))
theorem wi_344_0 : ri (rt_P sc fm) 344 0 (.aload_n 0) (1) := ri_of (by decide +kernel) rfl
theorem wi_344_1 : ri (rt_P sc fm) 344 1 (.getfield 33) (4) := ri_of (by decide +kernel) rfl
theorem wi_344_12 : ri (rt_P sc fm) 344 12 (.istore_n 1) (13) := ri_of (by decide +kernel) rfl
theorem wi_344_13 : ri (rt_P sc fm) 344 13 (.iconst 0) (14) := ri_of (by decide +kernel) rfl
theorem wi_344_14 : ri (rt_P sc fm) 344 14 (.istore_n 2) (15) := ri_of (by decide +kernel) rfl
theorem wi_344_15 : ri (rt_P sc fm) 344 15 (.iload_n 2) (16) := ri_of (by decide +kernel) rfl
theorem wi_344_16 : ri (rt_P sc fm) 344 16 (.aload_n 0) (17) := ri_of (by decide +kernel) rfl
theorem wi_344_17 : ri (rt_P sc fm) 344 17 (.getfield 33) (20) := ri_of (by decide +kernel) rfl
theorem wi_344_20 : ri (rt_P sc fm) 344 20 (.getfield 66) (23) := ri_of (by decide +kernel) rfl
theorem wi_344_23 : ri (rt_P sc fm) 344 23 (.if_icmp .ge 75) (26) := ri_of (by decide +kernel) rfl
theorem wi_344_26 : ri (rt_P sc fm) 344 26 (.aload_n 0) (27) := ri_of (by decide +kernel) rfl
theorem wi_344_27 : ri (rt_P sc fm) 344 27 (.getfield 9) (30) := ri_of (by decide +kernel) rfl
theorem wi_344_30 : ri (rt_P sc fm) 344 30 (.iload_n 2) (31) := ri_of (by decide +kernel) rfl
theorem wi_344_31 : ri (rt_P sc fm) 344 31 (.iload_n 1) (32) := ri_of (by decide +kernel) rfl
theorem wi_344_32 : ri (rt_P sc fm) 344 32 (.ifCond .lt 22) (35) := ri_of (by decide +kernel) rfl
theorem wi_344_35 : ri (rt_P sc fm) 344 35 (.aload_n 0) (36) := ri_of (by decide +kernel) rfl
theorem wi_344_36 : ri (rt_P sc fm) 344 36 (.getfield 41) (39) := ri_of (by decide +kernel) rfl
theorem wi_344_39 : ri (rt_P sc fm) 344 39 (.bipush 100) (41) := ri_of (by decide +kernel) rfl
theorem wi_344_4 : ri (rt_P sc fm) 344 4 (.ldc 73) (6) := ri_of (by decide +kernel) rfl
theorem wi_344_41 : ri (rt_P sc fm) 344 41 (.iload_n 2) (42) := ri_of (by decide +kernel) rfl
theorem wi_344_42 : ri (rt_P sc fm) 344 42 (.imul) (43) := ri_of (by decide +kernel) rfl
theorem wi_344_43 : ri (rt_P sc fm) 344 43 (.iload_n 1) (44) := ri_of (by decide +kernel) rfl
theorem wi_344_44 : ri (rt_P sc fm) 344 44 (.invokevirtual 75) (47) := ri_of (by decide +kernel) rfl
theorem wi_344_47 : ri (rt_P sc fm) 344 47 (.ifCond .le 7) (50) := ri_of (by decide +kernel) rfl
theorem wi_344_50 : ri (rt_P sc fm) 344 50 (.iconst 1) (51) := ri_of (by decide +kernel) rfl
theorem wi_344_51 : ri (rt_P sc fm) 344 51 (.goto 4) (54) := ri_of (by decide +kernel) rfl
theorem wi_344_54 : ri (rt_P sc fm) 344 54 (.iconst 0) (55) := ri_of (by decide +kernel) rfl
theorem wi_344_55 : ri (rt_P sc fm) 344 55 (.bastore) (56) := ri_of (by decide +kernel) rfl
theorem wi_344_56 : ri (rt_P sc fm) 344 56 (.aload_n 0) (57) := ri_of (by decide +kernel) rfl
theorem wi_344_57 : ri (rt_P sc fm) 344 57 (.getfield 15) (60) := ri_of (by decide +kernel) rfl
theorem wi_344_6 : ri (rt_P sc fm) 344 6 (.invokestatic 56) (9) := ri_of (by decide +kernel) rfl
theorem wi_344_60 : ri (rt_P sc fm) 344 60 (.iload_n 2) (61) := ri_of (by decide +kernel) rfl
theorem wi_344_61 : ri (rt_P sc fm) 344 61 (.aload_n 0) (62) := ri_of (by decide +kernel) rfl
theorem wi_344_62 : ri (rt_P sc fm) 344 62 (.getfield 9) (65) := ri_of (by decide +kernel) rfl
theorem wi_344_65 : ri (rt_P sc fm) 344 65 (.iload_n 2) (66) := ri_of (by decide +kernel) rfl
theorem wi_344_66 : ri (rt_P sc fm) 344 66 (.baload) (67) := ri_of (by decide +kernel) rfl
theorem wi_344_67 : ri (rt_P sc fm) 344 67 (.ifCond .eq 16) (70) := ri_of (by decide +kernel) rfl
theorem wi_344_70 : ri (rt_P sc fm) 344 70 (.aload_n 0) (71) := ri_of (by decide +kernel) rfl
theorem wi_344_71 : ri (rt_P sc fm) 344 71 (.iload_n 1) (72) := ri_of (by decide +kernel) rfl
theorem wi_344_72 : ri (rt_P sc fm) 344 72 (.ldc 81) (74) := ri_of (by decide +kernel) rfl
theorem wi_344_74 : ri (rt_P sc fm) 344 74 (.invokestatic 56) (77) := ri_of (by decide +kernel) rfl
theorem wi_344_77 : ri (rt_P sc fm) 344 77 (.invokevirtual 82) (80) := ri_of (by decide +kernel) rfl
theorem wi_344_80 : ri (rt_P sc fm) 344 80 (.goto 4) (83) := ri_of (by decide +kernel) rfl
theorem wi_344_83 : ri (rt_P sc fm) 344 83 (.lconst 0) (84) := ri_of (by decide +kernel) rfl
theorem wi_344_84 : ri (rt_P sc fm) 344 84 (.lastore) (85) := ri_of (by decide +kernel) rfl
theorem wi_344_85 : ri (rt_P sc fm) 344 85 (.aload_n 0) (86) := ri_of (by decide +kernel) rfl
theorem wi_344_86 : ri (rt_P sc fm) 344 86 (.getfield 19) (89) := ri_of (by decide +kernel) rfl
theorem wi_344_89 : ri (rt_P sc fm) 344 89 (.iload_n 2) (90) := ri_of (by decide +kernel) rfl
theorem wi_344_9 : ri (rt_P sc fm) 344 9 (.invokevirtual 60) (12) := ri_of (by decide +kernel) rfl
theorem wi_344_90 : ri (rt_P sc fm) 344 90 (.iconst 0) (91) := ri_of (by decide +kernel) rfl
theorem wi_344_91 : ri (rt_P sc fm) 344 91 (.iastore) (92) := ri_of (by decide +kernel) rfl
theorem wi_344_92 : ri (rt_P sc fm) 344 92 (.iinc 2 1) (95) := ri_of (by decide +kernel) rfl
theorem wi_344_95 : ri (rt_P sc fm) 344 95 (.goto (-80)) (98) := ri_of (by decide +kernel) rfl
theorem wi_344_98 : ri (rt_P sc fm) 344 98 (.return_) (99) := ri_of (by decide +kernel) rfl
theorem wk_344_73 : rx_kt (rt_P sc fm) 344 73 = some (.ref (rx_K 44)) := (by decide +kernel : rt_kt 344 73 = some (.ref (rx_K 44)))
theorem wk_344_81 : rx_kt (rt_P sc fm) 344 81 = some (.ref (rx_K 45)) := (by decide +kernel : rt_kt 344 81 = some (.ref (rx_K 45)))
theorem wm_345 : rx_ml (rt_P sc fm) 345 = 4 := (by decide +kernel : rt_ml 345 = 4)
theorem wr_344 : rx_rt (rt_P sc fm) 344 = none := (by decide +kernel : rt_rt 344 = none)
/-- MarkHouse$Wiring.seekParts()V -/
def d_344 (n : Nat)  (c : cS) : Option (cS) :=
  Option.bind (d_351 n 44) (fun v1 =>
  Option.bind (d_248 n v1 c) (fun v2 =>
  Option.bind (whl (R := (cS)) (fun s5 : Int32 × cS =>
    if (s5.2.1 7 10) ≤ s5.1 then
      some (.inr s5.2)
    else
      jn (fun p6 : Int32 × cS =>
        if ib s5.1 12 then
        lt (pI p6.2 168 (ix s5.1) (vp_nar .boolean p6.1)) (fun c8 =>
        if ib s5.1 12 then
        jn (fun p11 : Int64 =>
          if ib s5.1 12 then
          lt (pL c8 169 (ix s5.1) p11) (fun c13 =>
          if ib s5.1 12 then
          lt (pI c13 170 (ix s5.1) 0) (fun c16 =>
          lt (s5.1 + 1 : Int32) (fun v19 =>
          some (.inl (v19, c16))))
          else none)
          else none)
        (fun j84 =>
        if (c8.1 168 (ix s5.1)) = 0 then
          j84 0
        else
          Option.bind (d_351 n 45) (fun v21 =>
          Option.bind (d_345 n v2 v21 c8) (fun v22 =>
          j84 v22)))
        else none)
        else none)
      (fun j55 =>
      jn (fun p23 : cS =>
        j55 (0, p23))
      (fun j54 =>
      if v2 < 0 then
        j54 s5.2
      else
        Option.bind (d_180 n (100 * s5.1) v2 s5.2) (fun r24 =>
        if r24.1 ≤ 0 then
          j54 r24.2
        else
          j55 (1, r24.2))))) n (0, c))
  (fun x25 : cS =>
    some x25)))
set_option maxRecDepth 100000 in
set_option maxHeartbeats 4000000 in
theorem sp_344 {F Lo n : Nat}  {c y : cS} {w : cW} {K : cS → Prop} {Q : ((Option Value) ⊕ String) → List va_E → Prop} (hw : rOK fm w) (hF : 5 ≤ F) (hLo : 108 ≤ Lo)  (h : wp (d_344 n  c) K) (hQ : ∀ r, K r → Q (.inl none) (hq true r y w)) : rs (rt_P sc fm) 344 F Lo 0 [(0, .ref 167)] [] (hq true c y w) Q := by
  unfold d_344 at h
  obtain ⟨lv, elv⟩ : ∃ lv : rx_L, lv = [(0, .ref 167)] := ⟨_, rfl⟩
  rw [← elv]
  have l0 : rx_ld lv 0 = some (.ref 167) := by rw [elv]; rfl
  refine rs_aldn wi_344_0 l0 ?_
  refine dq_gr wi_344_1 wf_344_33 tf_167_0 ?_
  refine rs_ldcS wi_344_4 wk_344_73 ?_
  refine rs_SN wi_344_6 wc_344_56 rfl (Nat.le_trans (by decide) hF) (ml_le wm_351 (Nat.le_trans (by decide) hLo)) rfl (sp_351 hq_len hw.2.2.2 (Nat.le_trans (by decide : 4 ≤ 5 - 1) (Nat.sub_le_sub_right hF 1)) (ml_sub wm_351 (Nat.le_trans (by decide : 85 ≤ 108 - 23) (Nat.sub_le_sub_right hLo 23))) wsb_44 (wp_bind h) (fun v1 h => rs_back1 ?_))
  refine rs_V wi_344_9 wc_344_60 rfl (dq_isa tf_7_0 wa_9_248) (Nat.le_trans (by decide) hF) (ml_le wm_248 (Nat.le_trans (by decide) hLo)) rfl (sp_248 hw (Nat.le_trans (by decide : 0 ≤ 5 - 1) (Nat.sub_le_sub_right hF 1)) (ml_sub wm_248 (Nat.le_trans (by decide : 0 ≤ 108 - 23) (Nat.sub_le_sub_right hLo 23))) (wp_bind h) (fun v2 h => rs_back1 ?_))
  refine dl_istn wi_344_12 rfl (fun lv l1 t3 => ?_)
  have l0 := t3 _ _ (by decide) (Or.inl rfl) l0
  refine rs_pure wi_344_13 rfl ?_
  refine rs_topi (v := 0) (by decide) ?_
  refine dl_istn wi_344_14 rfl (fun lv l2 t4 => ?_)
  have l0 := t4 _ _ (by decide) (Or.inl rfl) l0
  have l1 := t4 _ _ (by decide) (Or.inl rfl) l1
  refine whl_ex (A := fun s5 : Int32 × cS => ∀ lv, rx_ld lv 0 = some (.ref 167) → rx_ld lv 1 = some (.int v2) → rx_ld lv 2 = some (.int s5.1) → rs (rt_P sc fm) 344 F Lo 15 lv [] (hq true s5.2 y w) Q) (B := (fun x25 : cS => ∀ lv, rs (rt_P sc fm) 344 F Lo 98 lv [] (hq true x25 y w) Q)) ?_ ?_ _ _ (wp_bind h) _ l0 l1 l2
  · intro s5 h lv l0 l1 l2
    refine rs_ildn wi_344_15 l2 ?_
    refine rs_aldn wi_344_16 l0 ?_
    refine dq_gr wi_344_17 wf_344_33 tf_167_0 ?_
    refine dq_gi wi_344_20 wf_344_66 tf_7_10 ?_
    refine rs_icge (tg := 98) wi_344_23 ⟨by decide, by decide⟩ (fun q => ?_) (fun q => ?_)
    ·
      have h := wp_pos h q
      exact h _
    ·
      have h := wp_neg h q
      refine rs_aldn wi_344_26 l0 ?_
      refine dq_gr wi_344_27 wf_344_9 tf_167_3 ?_
      refine rs_ildn wi_344_30 l2 ?_
      refine rs_ildn wi_344_31 l1 ?_
      refine wp_jn (B := fun p6 : Int32 × cS => ∀ lv, rx_ld lv 0 = some (.ref 167) → rx_ld lv 1 = some (.int v2) → rx_ld lv 2 = some (.int s5.1) → rs (rt_P sc fm) 344 F Lo 55 lv [.int p6.1, .int s5.1, .ref 168] (hq true p6.2 y w) Q) h (fun p6 h lv l0 l1 l2 => ?_) (fun j55 hj55 h => ?_)
      ·
        obtain ⟨g7, h⟩ := wp_gd h
        obtain ⟨c8, e9, h⟩ := wp_lt h
        refine dq_zast wi_344_55 t_168 g7 e9 ?_
        refine rs_aldn wi_344_56 l0 ?_
        refine dq_gr wi_344_57 wf_344_15 tf_167_4 ?_
        refine rs_ildn wi_344_60 l2 ?_
        refine rs_aldn wi_344_61 l0 ?_
        refine dq_gr wi_344_62 wf_344_9 tf_167_3 ?_
        refine rs_ildn wi_344_65 l2 ?_
        obtain ⟨g10, h⟩ := wp_gd h
        refine dq_zald wi_344_66 t_168 g10 ?_
        refine wp_jn (B := fun p11 : Int64 => ∀ lv, rx_ld lv 0 = some (.ref 167) → rx_ld lv 1 = some (.int v2) → rx_ld lv 2 = some (.int s5.1) → rs (rt_P sc fm) 344 F Lo 84 lv [.long p11, .int s5.1, .ref 169] (hq true c8 y w) Q) h (fun p11 h lv l0 l1 l2 => ?_) (fun j84 hj84 h => ?_)
        ·
          obtain ⟨g12, h⟩ := wp_gd h
          obtain ⟨c13, e14, h⟩ := wp_lt h
          refine dq_last wi_344_84 t_169 g12 e14 ?_
          refine rs_aldn wi_344_85 l0 ?_
          refine dq_gr wi_344_86 wf_344_19 tf_167_5 ?_
          refine rs_ildn wi_344_89 l2 ?_
          refine rs_pure wi_344_90 rfl ?_
          refine rs_topi (v := 0) (by decide) ?_
          obtain ⟨g15, h⟩ := wp_gd h
          obtain ⟨c16, e17, h⟩ := wp_lt h
          refine dq_iast wi_344_91 t_170 g15 e17 ?_
          obtain ⟨v19, e20, h⟩ := wp_lt h
          refine dl_inc wi_344_92 l2 rfl e20 (fun lv l2 t18 => ?_)
          have l0 := t18 _ _ (by decide) (Or.inl rfl) l0
          have l1 := t18 _ _ (by decide) (Or.inl rfl) l1
          refine rs_goto (tg := 15) wi_344_95 ⟨by decide, by decide⟩ ?_
          exact h _ l0 l1 l2
        refine rs_ifeq (tg := 83) wi_344_67 ⟨by decide, by decide⟩ (fun q => ?_) (fun q => ?_)
        ·
          have h := wp_pos h q
          refine rs_pure wi_344_83 rfl ?_
          refine rs_topl (v := 0) (by decide) ?_
          exact hj84 _ h _ l0 l1 l2
        ·
          have h := wp_neg h q
          refine rs_aldn wi_344_70 l0 ?_
          refine rs_ildn wi_344_71 l1 ?_
          refine rs_ldcS wi_344_72 wk_344_81 ?_
          refine rs_SN wi_344_74 wc_344_56 rfl (Nat.le_trans (by decide) hF) (ml_le wm_351 (Nat.le_trans (by decide) hLo)) rfl (sp_351 hq_len hw.2.2.2 (Nat.le_trans (by decide : 4 ≤ 5 - 1) (Nat.sub_le_sub_right hF 1)) (ml_sub wm_351 (Nat.le_trans (by decide : 85 ≤ 108 - 23) (Nat.sub_le_sub_right hLo 23))) wsb_45 (wp_bind h) (fun v21 h => rs_back1 ?_))
          refine rs_V wi_344_77 wc_344_82 rfl (dq_isa tf_167_0 wa_13_345) (Nat.le_trans (by decide) hF) (ml_le wm_345 (Nat.le_trans (by decide) hLo)) rfl (sp_345 hw (Nat.le_trans (by decide : 3 ≤ 5 - 1) (Nat.sub_le_sub_right hF 1)) (ml_sub wm_345 (Nat.le_trans (by decide : 75 ≤ 108 - 23) (Nat.sub_le_sub_right hLo 23))) (wp_bind h) (fun v22 h => rs_back1 ?_))
          refine rs_goto (tg := 84) wi_344_80 ⟨by decide, by decide⟩ ?_
          exact hj84 _ h _ l0 l1 l2
      refine wp_jn (B := fun p23 : cS => ∀ lv, rx_ld lv 0 = some (.ref 167) → rx_ld lv 1 = some (.int v2) → rx_ld lv 2 = some (.int s5.1) → rs (rt_P sc fm) 344 F Lo 54 lv [.int s5.1, .ref 168] (hq true p23 y w) Q) h (fun p23 h lv l0 l1 l2 => ?_) (fun j54 hj54 h => ?_)
      ·
        refine rs_pure wi_344_54 rfl ?_
        refine rs_topi (v := 0) (by decide) ?_
        exact hj55 _ h _ l0 l1 l2
      refine rs_iflt (tg := 54) wi_344_32 ⟨by decide, by decide⟩ (fun q => ?_) (fun q => ?_)
      ·
        have h := wp_pos h q
        exact hj54 _ h _ l0 l1 l2
      ·
        have h := wp_neg h q
        refine rs_aldn wi_344_35 l0 ?_
        refine dq_gr wi_344_36 wf_344_41 tf_167_2 ?_
        refine rs_pure wi_344_39 rfl ?_
        refine rs_topi (v := 100) (by decide) ?_
        refine rs_ildn wi_344_41 l2 ?_
        refine rs_pure wi_344_42 rfl ?_
        refine rs_ildn wi_344_43 l1 ?_
        refine rs_V wi_344_44 wc_344_75 rfl (dq_isa tf_146_0 wa_4_180) (Nat.le_trans (by decide) hF) (ml_le wm_180 (Nat.le_trans (by decide) hLo)) rfl (sp_180 hw (Nat.le_trans (by decide : 3 ≤ 5 - 1) (Nat.sub_le_sub_right hF 1)) (ml_sub wm_180 (Nat.le_trans (by decide : 75 ≤ 108 - 25) (Nat.sub_le_sub_right hLo 25))) (wp_bind h) (fun r24 h => rs_back1 ?_))
        refine rs_ifle (tg := 54) wi_344_47 ⟨by decide, by decide⟩ (fun q => ?_) (fun q => ?_)
        ·
          have h := wp_pos h q
          exact hj54 _ h _ l0 l1 l2
        ·
          have h := wp_neg h q
          refine rs_pure wi_344_50 rfl ?_
          refine rs_topi (v := 1) (by decide) ?_
          refine rs_goto (tg := 55) wi_344_51 ⟨by decide, by decide⟩ ?_
          exact hj55 _ h _ l0 l1 l2
  ·
    intro x25 h lv
    exact rs_vret wi_344_98 wr_344 (hQ x25 h)
theorem wf_255_34 : rx_ft (rt_P sc fm) 255 34 = some (9, 9) := (by decide +kernel : rt_ft 255 34 = some (9, 9))
theorem wi_255_0 : ri (rt_P sc fm) 255 0 (.iload_n 1) (1) := ri_of (by decide +kernel) rfl
theorem wi_255_1 : ri (rt_P sc fm) 255 1 (.istore_n 3) (2) := ri_of (by decide +kernel) rfl
theorem wi_255_11 : ri (rt_P sc fm) 255 11 (.iload_n 3) (12) := ri_of (by decide +kernel) rfl
theorem wi_255_12 : ri (rt_P sc fm) 255 12 (.ifCond .lt 16) (15) := ri_of (by decide +kernel) rfl
theorem wi_255_15 : ri (rt_P sc fm) 255 15 (.aload_n 0) (16) := ri_of (by decide +kernel) rfl
theorem wi_255_16 : ri (rt_P sc fm) 255 16 (.getfield 34) (19) := ri_of (by decide +kernel) rfl
theorem wi_255_19 : ri (rt_P sc fm) 255 19 (.iload_n 3) (20) := ri_of (by decide +kernel) rfl
theorem wi_255_2 : ri (rt_P sc fm) 255 2 (.iconst 0) (3) := ri_of (by decide +kernel) rfl
theorem wi_255_20 : ri (rt_P sc fm) 255 20 (.iaload) (21) := ri_of (by decide +kernel) rfl
theorem wi_255_21 : ri (rt_P sc fm) 255 21 (.istore_n 3) (22) := ri_of (by decide +kernel) rfl
theorem wi_255_22 : ri (rt_P sc fm) 255 22 (.iinc 4 1) (25) := ri_of (by decide +kernel) rfl
theorem wi_255_25 : ri (rt_P sc fm) 255 25 (.goto (-20)) (28) := ri_of (by decide +kernel) rfl
theorem wi_255_28 : ri (rt_P sc fm) 255 28 (.iload_n 3) (29) := ri_of (by decide +kernel) rfl
theorem wi_255_29 : ri (rt_P sc fm) 255 29 (.ireturn) (30) := ri_of (by decide +kernel) rfl
theorem wi_255_3 : ri (rt_P sc fm) 255 3 (.istore 4) (5) := ri_of (by decide +kernel) rfl
theorem wi_255_5 : ri (rt_P sc fm) 255 5 (.iload 4) (7) := ri_of (by decide +kernel) rfl
theorem wi_255_7 : ri (rt_P sc fm) 255 7 (.iload_n 2) (8) := ri_of (by decide +kernel) rfl
theorem wi_255_8 : ri (rt_P sc fm) 255 8 (.if_icmp .ge 20) (11) := ri_of (by decide +kernel) rfl
theorem wr_255 : rx_rt (rt_P sc fm) 255 = (some FieldType.int) := (by decide +kernel : rt_rt 255 = (some FieldType.int))
/-- MarkHouse$Program.ancestor(II)I -/
def d_255 (n : Nat) (a1 : Int32) (a2 : Int32) (c : cS) : Option (Int32) :=
  Option.bind (whl (R := (Int32)) (fun s3 : Int32 × Int32 =>
    if a2 ≤ s3.2 then
      some (.inr s3.1)
    else
      if s3.1 < 0 then
        some (.inr s3.1)
      else
        if ib s3.1 12 then
        lt ((c.1 13 (ix s3.1)) : Int32) (fun v6 =>
        lt (s3.2 + 1 : Int32) (fun v9 =>
        some (.inl (v6, v9))))
        else none) n (a1, 0))
  (fun x11 : Int32 =>
    some x11)
set_option maxRecDepth 100000 in
set_option maxHeartbeats 4000000 in
theorem sp_255 {F Lo n : Nat} {a1 : Int32} {a2 : Int32} {c y : cS} {w : cW} {K : Int32 → Prop} {Q : ((Option Value) ⊕ String) → List va_E → Prop} (hw : rOK fm w) (hF : 0 ≤ F) (hLo : 0 ≤ Lo)  (h : wp (d_255 n a1 a2 c) K) (hQ : ∀ r, K r → Q (.inl (some (.int r))) (hq true c y w)) : rs (rt_P sc fm) 255 F Lo 0 [(0, .ref 7), (1, .int a1), (2, .int a2)] [] (hq true c y w) Q := by
  unfold d_255 at h
  obtain ⟨lv, elv⟩ : ∃ lv : rx_L, lv = [(0, .ref 7), (1, .int a1), (2, .int a2)] := ⟨_, rfl⟩
  rw [← elv]
  have l0 : rx_ld lv 0 = some (.ref 7) := by rw [elv]; rfl
  have l1 : rx_ld lv 1 = some (.int a1) := by rw [elv]; rfl
  have l2 : rx_ld lv 2 = some (.int a2) := by rw [elv]; rfl
  refine rs_ildn wi_255_0 l1 ?_
  refine dl_istn wi_255_1 rfl (fun lv l3 t1 => ?_)
  have l0 := t1 _ _ (by decide) (Or.inl rfl) l0
  have l2 := t1 _ _ (by decide) (Or.inl rfl) l2
  refine rs_pure wi_255_2 rfl ?_
  refine rs_topi (v := 0) (by decide) ?_
  refine dl_ist wi_255_3 rfl (fun lv l4 t2 => ?_)
  have l0 := t2 _ _ (by decide) (Or.inl rfl) l0
  have l2 := t2 _ _ (by decide) (Or.inl rfl) l2
  have l3 := t2 _ _ (by decide) (Or.inl rfl) l3
  refine whl_ex (A := fun s3 : Int32 × Int32 => ∀ lv, rx_ld lv 0 = some (.ref 7) → rx_ld lv 2 = some (.int a2) → rx_ld lv 3 = some (.int s3.1) → rx_ld lv 4 = some (.int s3.2) → rs (rt_P sc fm) 255 F Lo 5 lv [] (hq true c y w) Q) (B := (fun x11 : Int32 => ∀ lv, rx_ld lv 3 = some (.int x11) → rs (rt_P sc fm) 255 F Lo 28 lv [] (hq true c y w) Q)) ?_ ?_ _ _ (wp_bind h) _ l0 l2 l3 l4
  · intro s3 h lv l0 l2 l3 l4
    refine rs_ild wi_255_5 l4 ?_
    refine rs_ildn wi_255_7 l2 ?_
    refine rs_icge (tg := 28) wi_255_8 ⟨by decide, by decide⟩ (fun q => ?_) (fun q => ?_)
    ·
      have h := wp_pos h q
      exact h _ l3
    ·
      have h := wp_neg h q
      refine rs_ildn wi_255_11 l3 ?_
      refine rs_iflt (tg := 28) wi_255_12 ⟨by decide, by decide⟩ (fun q => ?_) (fun q => ?_)
      ·
        have h := wp_pos h q
        exact h _ l3
      ·
        have h := wp_neg h q
        refine rs_aldn wi_255_15 l0 ?_
        refine dq_gr wi_255_16 wf_255_34 tf_7_9 ?_
        refine rs_ildn wi_255_19 l3 ?_
        obtain ⟨g4, h⟩ := wp_gd h
        refine dq_iald wi_255_20 t_13 g4 ?_
        obtain ⟨v6, e7, h⟩ := wp_lt h
        refine rs_topi e7 ?_
        refine dl_istn wi_255_21 rfl (fun lv l3 t5 => ?_)
        have l0 := t5 _ _ (by decide) (Or.inl rfl) l0
        have l2 := t5 _ _ (by decide) (Or.inl rfl) l2
        have l4 := t5 _ _ (by decide) (Or.inl rfl) l4
        obtain ⟨v9, e10, h⟩ := wp_lt h
        refine dl_inc wi_255_22 l4 rfl e10 (fun lv l4 t8 => ?_)
        have l0 := t8 _ _ (by decide) (Or.inl rfl) l0
        have l2 := t8 _ _ (by decide) (Or.inl rfl) l2
        have l3 := t8 _ _ (by decide) (Or.inl rfl) l3
        refine rs_goto (tg := 5) wi_255_25 ⟨by decide, by decide⟩ ?_
        exact h _ l0 l2 l3 l4
  ·
    intro x11 h lv l3
    refine rs_ildn wi_255_28 l3 ?_
    exact rs_iret wi_255_29 wr_255 rfl (hQ x11 h)
theorem wa_9_255 : rz_cn 9 (rx_yn (rt_P sc fm) 255).cls = true := (by decide +kernel : rz_cn 9 (rt_yn 255).cls = true)
theorem wc_256_108 : rx_ct (rt_P sc fm) 256 108 = some (0, 255, 2) := (by decide +kernel : rt_ct 256 108 = some (0, 255, 2))
theorem wi_256_0 : ri (rt_P sc fm) 256 0 (.iconst 0) (1) := ri_of (by decide +kernel) rfl
theorem wi_256_1 : ri (rt_P sc fm) 256 1 (.istore_n 3) (2) := ri_of (by decide +kernel) rfl
theorem wi_256_10 : ri (rt_P sc fm) 256 10 (.iload_n 3) (11) := ri_of (by decide +kernel) rfl
theorem wi_256_11 : ri (rt_P sc fm) 256 11 (.invokevirtual 108) (14) := ri_of (by decide +kernel) rfl
theorem wi_256_14 : ri (rt_P sc fm) 256 14 (.iload_n 2) (15) := ri_of (by decide +kernel) rfl
theorem wi_256_15 : ri (rt_P sc fm) 256 15 (.if_icmp .ne 5) (18) := ri_of (by decide +kernel) rfl
theorem wi_256_18 : ri (rt_P sc fm) 256 18 (.iconst 1) (19) := ri_of (by decide +kernel) rfl
theorem wi_256_19 : ri (rt_P sc fm) 256 19 (.ireturn) (20) := ri_of (by decide +kernel) rfl
theorem wi_256_2 : ri (rt_P sc fm) 256 2 (.iload_n 3) (3) := ri_of (by decide +kernel) rfl
theorem wi_256_20 : ri (rt_P sc fm) 256 20 (.iinc 3 1) (23) := ri_of (by decide +kernel) rfl
theorem wi_256_23 : ri (rt_P sc fm) 256 23 (.goto (-21)) (26) := ri_of (by decide +kernel) rfl
theorem wi_256_26 : ri (rt_P sc fm) 256 26 (.iconst 0) (27) := ri_of (by decide +kernel) rfl
theorem wi_256_27 : ri (rt_P sc fm) 256 27 (.ireturn) (28) := ri_of (by decide +kernel) rfl
theorem wi_256_3 : ri (rt_P sc fm) 256 3 (.bipush 12) (5) := ri_of (by decide +kernel) rfl
theorem wi_256_5 : ri (rt_P sc fm) 256 5 (.if_icmp .ge 21) (8) := ri_of (by decide +kernel) rfl
theorem wi_256_8 : ri (rt_P sc fm) 256 8 (.aload_n 0) (9) := ri_of (by decide +kernel) rfl
theorem wi_256_9 : ri (rt_P sc fm) 256 9 (.iload_n 1) (10) := ri_of (by decide +kernel) rfl
theorem wm_255 : rx_ml (rt_P sc fm) 255 = 5 := (by decide +kernel : rt_ml 255 = 5)
theorem wr_256 : rx_rt (rt_P sc fm) 256 = (some FieldType.boolean) := (by decide +kernel : rt_rt 256 = (some FieldType.boolean))
/-- MarkHouse$Program.isHeir(II)Z -/
def d_256 (n : Nat) (a1 : Int32) (a2 : Int32) (c : cS) : Option (Int32) :=
  Option.bind (whl (R := (Unit) ⊕ (Unit)) (fun s2 : Int32 =>
    if 12 ≤ s2 then
      some (.inr (.inl ()))
    else
      Option.bind (d_255 n a1 s2 c) (fun v3 =>
      if v3 = a2 then
        some (.inr (.inr ()))
      else
        lt (s2 + 1 : Int32) (fun v5 =>
        some (.inl v5)))) n 0)
  (Sum.elim (fun x7 : Unit =>
    some 0)
  (fun x8 : Unit =>
    some 1))
set_option maxRecDepth 100000 in
set_option maxHeartbeats 4000000 in
theorem sp_256 {F Lo n : Nat} {a1 : Int32} {a2 : Int32} {c y : cS} {w : cW} {K : Int32 → Prop} {Q : ((Option Value) ⊕ String) → List va_E → Prop} (hw : rOK fm w) (hF : 1 ≤ F) (hLo : 24 ≤ Lo)  (h : wp (d_256 n a1 a2 c) K) (hQ : ∀ r, K r → Q (.inl (some (.int r))) (hq true c y w)) : rs (rt_P sc fm) 256 F Lo 0 [(0, .ref 7), (1, .int a1), (2, .int a2)] [] (hq true c y w) Q := by
  unfold d_256 at h
  obtain ⟨lv, elv⟩ : ∃ lv : rx_L, lv = [(0, .ref 7), (1, .int a1), (2, .int a2)] := ⟨_, rfl⟩
  rw [← elv]
  have l0 : rx_ld lv 0 = some (.ref 7) := by rw [elv]; rfl
  have l1 : rx_ld lv 1 = some (.int a1) := by rw [elv]; rfl
  have l2 : rx_ld lv 2 = some (.int a2) := by rw [elv]; rfl
  refine rs_pure wi_256_0 rfl ?_
  refine rs_topi (v := 0) (by decide) ?_
  refine dl_istn wi_256_1 rfl (fun lv l3 t1 => ?_)
  have l0 := t1 _ _ (by decide) (Or.inl rfl) l0
  have l1 := t1 _ _ (by decide) (Or.inl rfl) l1
  have l2 := t1 _ _ (by decide) (Or.inl rfl) l2
  refine whl_ex (A := fun s2 : Int32 => ∀ lv, rx_ld lv 0 = some (.ref 7) → rx_ld lv 1 = some (.int a1) → rx_ld lv 2 = some (.int a2) → rx_ld lv 3 = some (.int s2) → rs (rt_P sc fm) 256 F Lo 2 lv [] (hq true c y w) Q) (B := (Sum.elim (fun x7 : Unit => ∀ lv, rs (rt_P sc fm) 256 F Lo 26 lv [] (hq true c y w) Q) (fun x8 : Unit => ∀ lv, rs (rt_P sc fm) 256 F Lo 18 lv [] (hq true c y w) Q))) ?_ ?_ _ _ (wp_bind h) _ l0 l1 l2 l3
  · intro s2 h lv l0 l1 l2 l3
    refine rs_ildn wi_256_2 l3 ?_
    refine rs_pure wi_256_3 rfl ?_
    refine rs_topi (v := 12) (by decide) ?_
    refine rs_icge (tg := 26) wi_256_5 ⟨by decide, by decide⟩ (fun q => ?_) (fun q => ?_)
    ·
      have h := wp_pos h q
      exact h _
    ·
      have h := wp_neg h q
      refine rs_aldn wi_256_8 l0 ?_
      refine rs_ildn wi_256_9 l1 ?_
      refine rs_ildn wi_256_10 l3 ?_
      refine rs_V wi_256_11 wc_256_108 rfl (dq_isa tf_7_0 wa_9_255) (Nat.le_trans (by decide) hF) (ml_le wm_255 (Nat.le_trans (by decide) hLo)) rfl (sp_255 hw (Nat.le_trans (by decide : 0 ≤ 1 - 1) (Nat.sub_le_sub_right hF 1)) (ml_sub wm_255 (Nat.le_trans (by decide : 0 ≤ 24 - 24) (Nat.sub_le_sub_right hLo 24))) (wp_bind h) (fun v3 h => rs_back1 ?_))
      refine rs_ildn wi_256_14 l2 ?_
      refine rs_icne (tg := 20) wi_256_15 ⟨by decide, by decide⟩ (fun q => ?_) (fun q => ?_)
      ·
        have h := wp_neg h q
        obtain ⟨v5, e6, h⟩ := wp_lt h
        refine dl_inc wi_256_20 l3 rfl e6 (fun lv l3 t4 => ?_)
        have l0 := t4 _ _ (by decide) (Or.inl rfl) l0
        have l1 := t4 _ _ (by decide) (Or.inl rfl) l1
        have l2 := t4 _ _ (by decide) (Or.inl rfl) l2
        refine rs_goto (tg := 2) wi_256_23 ⟨by decide, by decide⟩ ?_
        exact h _ l0 l1 l2 l3
      ·
        have h := wp_pos h q
        exact h _
  ·
    refine sum_all ?_ ?_
    ·
      intro x7 h lv
      have h := wp_inl h
      refine rs_pure wi_256_26 rfl ?_
      refine rs_topi (v := 0) (by decide) ?_
      exact rs_iret wi_256_27 wr_256 (nb_n (by decide)) (hQ 0 h)
    ·
      intro x8 h lv
      have h := wp_inr h
      refine rs_pure wi_256_18 rfl ?_
      refine rs_topi (v := 1) (by decide) ?_
      exact rs_iret wi_256_19 wr_256 (nb_n (by decide)) (hQ 1 h)
theorem wi_349_0 : ri (rt_P sc fm) 349 0 (.aload_n 0) (1) := ri_of (by decide +kernel) rfl
theorem wi_349_1 : ri (rt_P sc fm) 349 1 (.iload_n 2) (2) := ri_of (by decide +kernel) rfl
theorem wi_349_10 : ri (rt_P sc fm) 349 10 (.iload_n 1) (11) := ri_of (by decide +kernel) rfl
theorem wi_349_11 : ri (rt_P sc fm) 349 11 (.ireturn) (12) := ri_of (by decide +kernel) rfl
theorem wi_349_2 : ri (rt_P sc fm) 349 2 (.putfield 26) (5) := ri_of (by decide +kernel) rfl
theorem wi_349_5 : ri (rt_P sc fm) 349 5 (.aload_n 0) (6) := ri_of (by decide +kernel) rfl
theorem wi_349_6 : ri (rt_P sc fm) 349 6 (.iload_n 3) (7) := ri_of (by decide +kernel) rfl
theorem wi_349_7 : ri (rt_P sc fm) 349 7 (.putfield 30) (10) := ri_of (by decide +kernel) rfl
theorem wp_349_26 : rx_pt (rt_P sc fm) 349 26 = some (13, 8, .int) := (by decide +kernel : rt_pt 349 26 = some (13, 8, .int))
theorem wp_349_30 : rx_pt (rt_P sc fm) 349 30 = some (13, 9, .int) := (by decide +kernel : rt_pt 349 30 = some (13, 9, .int))
theorem wr_349 : rx_rt (rt_P sc fm) 349 = (some FieldType.int) := (by decide +kernel : rt_rt 349 = (some FieldType.int))
/-- MarkHouse$Wiring.note(III)I -/
def d_349 (n : Nat) (a1 : Int32) (a2 : Int32) (a3 : Int32) (c : cS) : Option (Int32 × cS) :=
  lt (pI c 167 8 a2) (fun c1 =>
  lt (pI c1 167 9 a3) (fun c3 =>
  some (a1, c3)))
set_option maxRecDepth 100000 in
set_option maxHeartbeats 4000000 in
theorem sp_349 {F Lo n : Nat} {a1 : Int32} {a2 : Int32} {a3 : Int32} {c y : cS} {w : cW} {K : Int32 × cS → Prop} {Q : ((Option Value) ⊕ String) → List va_E → Prop} (hw : rOK fm w) (hF : 0 ≤ F) (hLo : 0 ≤ Lo)  (h : wp (d_349 n a1 a2 a3 c) K) (hQ : ∀ r, K r → Q (.inl (some (.int r.1))) (hq true r.2 y w)) : rs (rt_P sc fm) 349 F Lo 0 [(0, .ref 167), (1, .int a1), (2, .int a2), (3, .int a3)] [] (hq true c y w) Q := by
  unfold d_349 at h
  obtain ⟨lv, elv⟩ : ∃ lv : rx_L, lv = [(0, .ref 167), (1, .int a1), (2, .int a2), (3, .int a3)] := ⟨_, rfl⟩
  rw [← elv]
  have l0 : rx_ld lv 0 = some (.ref 167) := by rw [elv]; rfl
  have l1 : rx_ld lv 1 = some (.int a1) := by rw [elv]; rfl
  have l2 : rx_ld lv 2 = some (.int a2) := by rw [elv]; rfl
  have l3 : rx_ld lv 3 = some (.int a3) := by rw [elv]; rfl
  refine rs_aldn wi_349_0 l0 ?_
  refine rs_ildn wi_349_1 l2 ?_
  obtain ⟨c1, e2, h⟩ := wp_lt h
  refine dq_pi wi_349_2 wp_349_26 tf_167_8 rfl rfl e2 ?_
  refine rs_aldn wi_349_5 l0 ?_
  refine rs_ildn wi_349_6 l3 ?_
  obtain ⟨c3, e4, h⟩ := wp_lt h
  refine dq_pi wi_349_7 wp_349_30 tf_167_9 rfl rfl e4 ?_
  refine rs_ildn wi_349_10 l1 ?_
  exact rs_iret wi_349_11 wr_349 rfl (hQ (a1, c3) h)
theorem wsb_46 : (rt_sb 46).isSome = true := by decide +kernel
theorem wsb_47 : (rt_sb 47).isSome = true := by decide +kernel
theorem wa_13_347 : rz_cn 13 (rx_yn (rt_P sc fm) 347).cls = true := (by decide +kernel : rz_cn 13 (rt_yn 347).cls = true)
theorem wa_13_349 : rz_cn 13 (rx_yn (rt_P sc fm) 349).cls = true := (by decide +kernel : rz_cn 13 (rt_yn 349).cls = true)
theorem wa_9_256 : rz_cn 9 (rx_yn (rt_P sc fm) 256).cls = true := (by decide +kernel : rz_cn 9 (rt_yn 256).cls = true)
theorem wc_348_124 : rx_ct (rt_P sc fm) 348 124 = some (0, 249, 1) := (by decide +kernel : rt_ct 348 124 = some (0, 249, 1))
theorem wc_348_129 : rx_ct (rt_P sc fm) 348 129 = some (0, 256, 2) := (by decide +kernel : rt_ct 348 129 = some (0, 256, 2))
theorem wc_348_133 : rx_ct (rt_P sc fm) 348 133 = some (0, 349, 3) := (by decide +kernel : rt_ct 348 133 = some (0, 349, 3))
theorem wc_348_56 : rx_ct (rt_P sc fm) 348 56 = some (11, 351, 1) := (by decide +kernel : rt_ct 348 56 = some (11, 351, 1))
theorem wc_348_69 : rx_ct (rt_P sc fm) 348 69 = some (0, 347, 3) := (by decide +kernel : rt_ct 348 69 = some (0, 347, 3))
theorem wc_348_75 : rx_ct (rt_P sc fm) 348 75 = some (0, 180, 2) := (by decide +kernel : rt_ct 348 75 = some (0, 180, 2))
theorem wc_348_82 : rx_ct (rt_P sc fm) 348 82 = some (0, 345, 2) := (by decide +kernel : rt_ct 348 82 = some (0, 345, 2))
theorem wc_348_86 : rx_ct (rt_P sc fm) 348 86 = some (0, 346, 3) := (by decide +kernel : rt_ct 348 86 = some (0, 346, 3))
theorem wf_348_15 : rx_ft (rt_P sc fm) 348 15 = some (13, 4) := (by decide +kernel : rt_ft 348 15 = some (13, 4))
theorem wf_348_19 : rx_ft (rt_P sc fm) 348 19 = some (13, 5) := (by decide +kernel : rt_ft 348 19 = some (13, 5))
theorem wf_348_33 : rx_ft (rt_P sc fm) 348 33 = some (13, 0) := (by decide +kernel : rt_ft 348 33 = some (13, 0))
theorem wf_348_41 : rx_ft (rt_P sc fm) 348 41 = some (13, 2) := (by decide +kernel : rt_ft 348 41 = some (13, 2))
theorem wf_348_66 : rx_ft (rt_P sc fm) 348 66 = some (9, 10) := (by decide +kernel : rt_ft 348 66 = some (9, 10))
theorem wf_348_9 : rx_ft (rt_P sc fm) 348 9 = some (13, 3) := (by decide +kernel : rt_ft 348 9 = some (13, 3))
theorem wi_348_0 : ri (rt_P sc fm) 348 0 (.aload_n 0) (1) := ri_of (by decide +kernel) rfl
theorem wi_348_1 : ri (rt_P sc fm) 348 1 (.getfield 41) (4) := ri_of (by decide +kernel) rfl
theorem wi_348_100 : ri (rt_P sc fm) 348 100 (.iload 11) (102) := ri_of (by decide +kernel) rfl
theorem wi_348_102 : ri (rt_P sc fm) 348 102 (.laload) (103) := ri_of (by decide +kernel) rfl
theorem wi_348_103 : ri (rt_P sc fm) 348 103 (.lload 6) (105) := ri_of (by decide +kernel) rfl
theorem wi_348_105 : ri (rt_P sc fm) 348 105 (.lcmp) (106) := ri_of (by decide +kernel) rfl
theorem wi_348_106 : ri (rt_P sc fm) 348 106 (.ifCond .ne 7) (109) := ri_of (by decide +kernel) rfl
theorem wi_348_109 : ri (rt_P sc fm) 348 109 (.iconst 1) (110) := ri_of (by decide +kernel) rfl
theorem wi_348_110 : ri (rt_P sc fm) 348 110 (.goto 4) (113) := ri_of (by decide +kernel) rfl
theorem wi_348_113 : ri (rt_P sc fm) 348 113 (.iconst 0) (114) := ri_of (by decide +kernel) rfl
theorem wi_348_114 : ri (rt_P sc fm) 348 114 (.istore 12) (116) := ri_of (by decide +kernel) rfl
theorem wi_348_116 : ri (rt_P sc fm) 348 116 (.aload_n 0) (117) := ri_of (by decide +kernel) rfl
theorem wi_348_117 : ri (rt_P sc fm) 348 117 (.getfield 9) (120) := ri_of (by decide +kernel) rfl
theorem wi_348_12 : ri (rt_P sc fm) 348 12 (.iconst 0) (13) := ri_of (by decide +kernel) rfl
theorem wi_348_120 : ri (rt_P sc fm) 348 120 (.iload 11) (122) := ri_of (by decide +kernel) rfl
theorem wi_348_122 : ri (rt_P sc fm) 348 122 (.baload) (123) := ri_of (by decide +kernel) rfl
theorem wi_348_123 : ri (rt_P sc fm) 348 123 (.ifCond .eq 34) (126) := ri_of (by decide +kernel) rfl
theorem wi_348_126 : ri (rt_P sc fm) 348 126 (.iload 5) (128) := ri_of (by decide +kernel) rfl
theorem wi_348_128 : ri (rt_P sc fm) 348 128 (.ifCond .lt 29) (131) := ri_of (by decide +kernel) rfl
theorem wi_348_13 : ri (rt_P sc fm) 348 13 (.ireturn) (14) := ri_of (by decide +kernel) rfl
theorem wi_348_131 : ri (rt_P sc fm) 348 131 (.iload 12) (133) := ri_of (by decide +kernel) rfl
theorem wi_348_133 : ri (rt_P sc fm) 348 133 (.ifCond .eq 24) (136) := ri_of (by decide +kernel) rfl
theorem wi_348_136 : ri (rt_P sc fm) 348 136 (.aload_n 0) (137) := ri_of (by decide +kernel) rfl
theorem wi_348_137 : ri (rt_P sc fm) 348 137 (.getfield 33) (140) := ri_of (by decide +kernel) rfl
theorem wi_348_14 : ri (rt_P sc fm) 348 14 (.aload_n 0) (15) := ri_of (by decide +kernel) rfl
theorem wi_348_140 : ri (rt_P sc fm) 348 140 (.iload 11) (142) := ri_of (by decide +kernel) rfl
theorem wi_348_142 : ri (rt_P sc fm) 348 142 (.iload 5) (144) := ri_of (by decide +kernel) rfl
theorem wi_348_144 : ri (rt_P sc fm) 348 144 (.invokevirtual 129) (147) := ri_of (by decide +kernel) rfl
theorem wi_348_147 : ri (rt_P sc fm) 348 147 (.ifCond .eq 10) (150) := ri_of (by decide +kernel) rfl
theorem wi_348_15 : ri (rt_P sc fm) 348 15 (.getfield 33) (18) := ri_of (by decide +kernel) rfl
theorem wi_348_150 : ri (rt_P sc fm) 348 150 (.iload 11) (152) := ri_of (by decide +kernel) rfl
theorem wi_348_152 : ri (rt_P sc fm) 348 152 (.istore 9) (154) := ri_of (by decide +kernel) rfl
theorem wi_348_154 : ri (rt_P sc fm) 348 154 (.iinc 10 1) (157) := ri_of (by decide +kernel) rfl
theorem wi_348_157 : ri (rt_P sc fm) 348 157 (.iinc 11 1) (160) := ri_of (by decide +kernel) rfl
theorem wi_348_160 : ri (rt_P sc fm) 348 160 (.goto (-83)) (163) := ri_of (by decide +kernel) rfl
theorem wi_348_163 : ri (rt_P sc fm) 348 163 (.iload 10) (165) := ri_of (by decide +kernel) rfl
theorem wi_348_165 : ri (rt_P sc fm) 348 165 (.iconst 1) (166) := ri_of (by decide +kernel) rfl
theorem wi_348_166 : ri (rt_P sc fm) 348 166 (.if_icmp .eq 20) (169) := ri_of (by decide +kernel) rfl
theorem wi_348_169 : ri (rt_P sc fm) 348 169 (.aload_n 0) (170) := ri_of (by decide +kernel) rfl
theorem wi_348_170 : ri (rt_P sc fm) 348 170 (.iload 10) (172) := ri_of (by decide +kernel) rfl
theorem wi_348_172 : ri (rt_P sc fm) 348 172 (.ifCond .ne 7) (175) := ri_of (by decide +kernel) rfl
theorem wi_348_175 : ri (rt_P sc fm) 348 175 (.iconst 1) (176) := ri_of (by decide +kernel) rfl
theorem wi_348_176 : ri (rt_P sc fm) 348 176 (.goto 4) (179) := ri_of (by decide +kernel) rfl
theorem wi_348_179 : ri (rt_P sc fm) 348 179 (.iconst 2) (180) := ri_of (by decide +kernel) rfl
theorem wi_348_18 : ri (rt_P sc fm) 348 18 (.aload_n 0) (19) := ri_of (by decide +kernel) rfl
theorem wi_348_180 : ri (rt_P sc fm) 348 180 (.iload_n 2) (181) := ri_of (by decide +kernel) rfl
theorem wi_348_181 : ri (rt_P sc fm) 348 181 (.iload_n 1) (182) := ri_of (by decide +kernel) rfl
theorem wi_348_182 : ri (rt_P sc fm) 348 182 (.invokevirtual 133) (185) := ri_of (by decide +kernel) rfl
theorem wi_348_185 : ri (rt_P sc fm) 348 185 (.ireturn) (186) := ri_of (by decide +kernel) rfl
theorem wi_348_186 : ri (rt_P sc fm) 348 186 (.iload 8) (188) := ri_of (by decide +kernel) rfl
theorem wi_348_188 : ri (rt_P sc fm) 348 188 (.ifCond .ne 14) (191) := ri_of (by decide +kernel) rfl
theorem wi_348_19 : ri (rt_P sc fm) 348 19 (.iload_n 3) (20) := ri_of (by decide +kernel) rfl
theorem wi_348_191 : ri (rt_P sc fm) 348 191 (.aload_n 0) (192) := ri_of (by decide +kernel) rfl
theorem wi_348_192 : ri (rt_P sc fm) 348 192 (.getfield 19) (195) := ri_of (by decide +kernel) rfl
theorem wi_348_195 : ri (rt_P sc fm) 348 195 (.iload 9) (197) := ri_of (by decide +kernel) rfl
theorem wi_348_197 : ri (rt_P sc fm) 348 197 (.iaload) (198) := ri_of (by decide +kernel) rfl
theorem wi_348_198 : ri (rt_P sc fm) 348 198 (.iconst 2) (199) := ri_of (by decide +kernel) rfl
theorem wi_348_199 : ri (rt_P sc fm) 348 199 (.if_icmp .ne 5) (202) := ri_of (by decide +kernel) rfl
theorem wi_348_20 : ri (rt_P sc fm) 348 20 (.ldc 122) (22) := ri_of (by decide +kernel) rfl
theorem wi_348_202 : ri (rt_P sc fm) 348 202 (.iconst 0) (203) := ri_of (by decide +kernel) rfl
theorem wi_348_203 : ri (rt_P sc fm) 348 203 (.ireturn) (204) := ri_of (by decide +kernel) rfl
theorem wi_348_204 : ri (rt_P sc fm) 348 204 (.aload_n 0) (205) := ri_of (by decide +kernel) rfl
theorem wi_348_205 : ri (rt_P sc fm) 348 205 (.getfield 19) (208) := ri_of (by decide +kernel) rfl
theorem wi_348_208 : ri (rt_P sc fm) 348 208 (.iload 9) (210) := ri_of (by decide +kernel) rfl
theorem wi_348_210 : ri (rt_P sc fm) 348 210 (.iaload) (211) := ri_of (by decide +kernel) rfl
theorem wi_348_211 : ri (rt_P sc fm) 348 211 (.iconst 1) (212) := ri_of (by decide +kernel) rfl
theorem wi_348_212 : ri (rt_P sc fm) 348 212 (.if_icmp .eq 10) (215) := ri_of (by decide +kernel) rfl
theorem wi_348_215 : ri (rt_P sc fm) 348 215 (.iload 4) (217) := ri_of (by decide +kernel) rfl
theorem wi_348_217 : ri (rt_P sc fm) 348 217 (.bipush 12) (219) := ri_of (by decide +kernel) rfl
theorem wi_348_219 : ri (rt_P sc fm) 348 219 (.if_icmp .lt 11) (222) := ri_of (by decide +kernel) rfl
theorem wi_348_22 : ri (rt_P sc fm) 348 22 (.invokestatic 56) (25) := ri_of (by decide +kernel) rfl
theorem wi_348_222 : ri (rt_P sc fm) 348 222 (.aload_n 0) (223) := ri_of (by decide +kernel) rfl
theorem wi_348_223 : ri (rt_P sc fm) 348 223 (.iconst 3) (224) := ri_of (by decide +kernel) rfl
theorem wi_348_224 : ri (rt_P sc fm) 348 224 (.iload_n 2) (225) := ri_of (by decide +kernel) rfl
theorem wi_348_225 : ri (rt_P sc fm) 348 225 (.iload_n 1) (226) := ri_of (by decide +kernel) rfl
theorem wi_348_226 : ri (rt_P sc fm) 348 226 (.invokevirtual 133) (229) := ri_of (by decide +kernel) rfl
theorem wi_348_229 : ri (rt_P sc fm) 348 229 (.ireturn) (230) := ri_of (by decide +kernel) rfl
theorem wi_348_230 : ri (rt_P sc fm) 348 230 (.aload_n 0) (231) := ri_of (by decide +kernel) rfl
theorem wi_348_231 : ri (rt_P sc fm) 348 231 (.iload 9) (233) := ri_of (by decide +kernel) rfl
theorem wi_348_233 : ri (rt_P sc fm) 348 233 (.iload_n 3) (234) := ri_of (by decide +kernel) rfl
theorem wi_348_234 : ri (rt_P sc fm) 348 234 (.iload 4) (236) := ri_of (by decide +kernel) rfl
theorem wi_348_236 : ri (rt_P sc fm) 348 236 (.iconst 1) (237) := ri_of (by decide +kernel) rfl
theorem wi_348_237 : ri (rt_P sc fm) 348 237 (.iadd) (238) := ri_of (by decide +kernel) rfl
theorem wi_348_238 : ri (rt_P sc fm) 348 238 (.invokevirtual 69) (241) := ri_of (by decide +kernel) rfl
theorem wi_348_241 : ri (rt_P sc fm) 348 241 (.ireturn) (242) := ri_of (by decide +kernel) rfl
theorem wi_348_25 : ri (rt_P sc fm) 348 25 (.invokevirtual 82) (28) := ri_of (by decide +kernel) rfl
theorem wi_348_28 : ri (rt_P sc fm) 348 28 (.invokevirtual 124) (31) := ri_of (by decide +kernel) rfl
theorem wi_348_31 : ri (rt_P sc fm) 348 31 (.istore 5) (33) := ri_of (by decide +kernel) rfl
theorem wi_348_33 : ri (rt_P sc fm) 348 33 (.aload_n 0) (34) := ri_of (by decide +kernel) rfl
theorem wi_348_34 : ri (rt_P sc fm) 348 34 (.iload_n 3) (35) := ri_of (by decide +kernel) rfl
theorem wi_348_35 : ri (rt_P sc fm) 348 35 (.ldc 81) (37) := ri_of (by decide +kernel) rfl
theorem wi_348_37 : ri (rt_P sc fm) 348 37 (.invokestatic 56) (40) := ri_of (by decide +kernel) rfl
theorem wi_348_4 : ri (rt_P sc fm) 348 4 (.iload_n 2) (5) := ri_of (by decide +kernel) rfl
theorem wi_348_40 : ri (rt_P sc fm) 348 40 (.invokevirtual 82) (43) := ri_of (by decide +kernel) rfl
theorem wi_348_43 : ri (rt_P sc fm) 348 43 (.lstore 6) (45) := ri_of (by decide +kernel) rfl
theorem wi_348_45 : ri (rt_P sc fm) 348 45 (.aload_n 0) (46) := ri_of (by decide +kernel) rfl
theorem wi_348_46 : ri (rt_P sc fm) 348 46 (.iload_n 3) (47) := ri_of (by decide +kernel) rfl
theorem wi_348_47 : ri (rt_P sc fm) 348 47 (.ldc 127) (49) := ri_of (by decide +kernel) rfl
theorem wi_348_49 : ri (rt_P sc fm) 348 49 (.invokestatic 56) (52) := ri_of (by decide +kernel) rfl
theorem wi_348_5 : ri (rt_P sc fm) 348 5 (.iload_n 3) (6) := ri_of (by decide +kernel) rfl
theorem wi_348_52 : ri (rt_P sc fm) 348 52 (.iconst 1) (53) := ri_of (by decide +kernel) rfl
theorem wi_348_53 : ri (rt_P sc fm) 348 53 (.invokevirtual 86) (56) := ri_of (by decide +kernel) rfl
theorem wi_348_56 : ri (rt_P sc fm) 348 56 (.lconst 0) (57) := ri_of (by decide +kernel) rfl
theorem wi_348_57 : ri (rt_P sc fm) 348 57 (.lcmp) (58) := ri_of (by decide +kernel) rfl
theorem wi_348_58 : ri (rt_P sc fm) 348 58 (.ifCond .eq 7) (61) := ri_of (by decide +kernel) rfl
theorem wi_348_6 : ri (rt_P sc fm) 348 6 (.invokevirtual 75) (9) := ri_of (by decide +kernel) rfl
theorem wi_348_61 : ri (rt_P sc fm) 348 61 (.iconst 1) (62) := ri_of (by decide +kernel) rfl
theorem wi_348_62 : ri (rt_P sc fm) 348 62 (.goto 4) (65) := ri_of (by decide +kernel) rfl
theorem wi_348_65 : ri (rt_P sc fm) 348 65 (.iconst 0) (66) := ri_of (by decide +kernel) rfl
theorem wi_348_66 : ri (rt_P sc fm) 348 66 (.istore 8) (68) := ri_of (by decide +kernel) rfl
theorem wi_348_68 : ri (rt_P sc fm) 348 68 (.iconst (-1)) (69) := ri_of (by decide +kernel) rfl
theorem wi_348_69 : ri (rt_P sc fm) 348 69 (.istore 9) (71) := ri_of (by decide +kernel) rfl
theorem wi_348_71 : ri (rt_P sc fm) 348 71 (.iconst 0) (72) := ri_of (by decide +kernel) rfl
theorem wi_348_72 : ri (rt_P sc fm) 348 72 (.istore 10) (74) := ri_of (by decide +kernel) rfl
theorem wi_348_74 : ri (rt_P sc fm) 348 74 (.iconst 0) (75) := ri_of (by decide +kernel) rfl
theorem wi_348_75 : ri (rt_P sc fm) 348 75 (.istore 11) (77) := ri_of (by decide +kernel) rfl
theorem wi_348_77 : ri (rt_P sc fm) 348 77 (.iload 11) (79) := ri_of (by decide +kernel) rfl
theorem wi_348_79 : ri (rt_P sc fm) 348 79 (.aload_n 0) (80) := ri_of (by decide +kernel) rfl
theorem wi_348_80 : ri (rt_P sc fm) 348 80 (.getfield 33) (83) := ri_of (by decide +kernel) rfl
theorem wi_348_83 : ri (rt_P sc fm) 348 83 (.getfield 66) (86) := ri_of (by decide +kernel) rfl
theorem wi_348_86 : ri (rt_P sc fm) 348 86 (.if_icmp .ge 77) (89) := ri_of (by decide +kernel) rfl
theorem wi_348_89 : ri (rt_P sc fm) 348 89 (.lload 6) (91) := ri_of (by decide +kernel) rfl
theorem wi_348_9 : ri (rt_P sc fm) 348 9 (.ifCond .ne 5) (12) := ri_of (by decide +kernel) rfl
theorem wi_348_91 : ri (rt_P sc fm) 348 91 (.lconst 0) (92) := ri_of (by decide +kernel) rfl
theorem wi_348_92 : ri (rt_P sc fm) 348 92 (.lcmp) (93) := ri_of (by decide +kernel) rfl
theorem wi_348_93 : ri (rt_P sc fm) 348 93 (.ifCond .eq 16) (96) := ri_of (by decide +kernel) rfl
theorem wi_348_96 : ri (rt_P sc fm) 348 96 (.aload_n 0) (97) := ri_of (by decide +kernel) rfl
theorem wi_348_97 : ri (rt_P sc fm) 348 97 (.getfield 15) (100) := ri_of (by decide +kernel) rfl
theorem wk_348_122 : rx_kt (rt_P sc fm) 348 122 = some (.ref (rx_K 46)) := (by decide +kernel : rt_kt 348 122 = some (.ref (rx_K 46)))
theorem wk_348_127 : rx_kt (rt_P sc fm) 348 127 = some (.ref (rx_K 47)) := (by decide +kernel : rt_kt 348 127 = some (.ref (rx_K 47)))
theorem wk_348_81 : rx_kt (rt_P sc fm) 348 81 = some (.ref (rx_K 45)) := (by decide +kernel : rt_kt 348 81 = some (.ref (rx_K 45)))
theorem wm_256 : rx_ml (rt_P sc fm) 256 = 4 := (by decide +kernel : rt_ml 256 = 4)
theorem wm_347 : rx_ml (rt_P sc fm) 347 = 8 := (by decide +kernel : rt_ml 347 = 8)
theorem wm_349 : rx_ml (rt_P sc fm) 349 = 4 := (by decide +kernel : rt_ml 349 = 4)
theorem wr_348 : rx_rt (rt_P sc fm) 348 = (some FieldType.int) := (by decide +kernel : rt_rt 348 = (some FieldType.int))
/-- MarkHouse$Wiring.meetWant(IIII)I -/
def d_348 (rec : Int32 → Int32 → Int32 → cS → Option (Int32 × cS)) (n : Nat) (a1 : Int32) (a2 : Int32) (a3 : Int32) (a4 : Int32) (c : cS) : Option (Int32 × cS) :=
  Option.bind (d_180 n a2 a3 c) (fun r1 =>
  if r1.1 = 0 then
    some (0, r1.2)
  else
    Option.bind (d_351 n 46) (fun v2 =>
    Option.bind (d_345 n a3 v2 r1.2) (fun v3 =>
    Option.bind (d_249 n v3 r1.2) (fun v4 =>
    Option.bind (d_351 n 45) (fun v6 =>
    Option.bind (d_345 n a3 v6 r1.2) (fun v7 =>
    Option.bind (d_351 n 47) (fun v9 =>
    Option.bind (d_346 n a3 v9 1 r1.2) (fun v10 =>
    jn (fun p11 : Int32 =>
      Option.bind (whl (R := (Int32 × Int32)) (fun s16 : Int32 × Int32 × Int32 =>
        if (r1.2.1 7 10) ≤ s16.2.2 then
          some (.inr (s16.1, s16.2.1))
        else
          jn (fun p17 : Int32 =>
            if ib s16.2.2 12 then
            jn (fun p20 : Int32 × Int32 =>
              lt (s16.2.2 + 1 : Int32) (fun v22 =>
              some (.inl (p20.1, p20.2, v22))))
            (fun j157 =>
            if (r1.2.1 168 (ix s16.2.2)) = 0 then
              j157 (s16.1, s16.2.1)
            else
              if v4 < 0 then
                j157 (s16.1, s16.2.1)
              else
                if p17 = 0 then
                  j157 (s16.1, s16.2.1)
                else
                  Option.bind (d_256 n s16.2.2 v4 r1.2) (fun v24 =>
                  if v24 = 0 then
                    j157 (s16.1, s16.2.1)
                  else
                    lt (s16.2.1 + 1 : Int32) (fun v27 =>
                    j157 (s16.2.2, v27))))
            else none)
          (fun j114 =>
          jn (fun p29 : Unit =>
            j114 1)
          (fun j109 =>
          if (lg_cmp v7 0) = 0 then
            j109 ()
          else
            if ib s16.2.2 12 then
            if (lg_cmp (r1.2.2 169 (ix s16.2.2)) v7) = 0 then
              j109 ()
            else
              j114 0
            else none))) n ((-1), 0, 0))
      (fun x31 : Int32 × Int32 =>
        if x31.2 = 1 then
          jn (fun p32 : Unit =>
            some (0, r1.2))
          (fun j202 =>
          if p11 = 0 then
            if ib x31.1 12 then
            if (r1.2.1 170 (ix x31.1)) = 2 then
              j202 ()
            else
              if ib x31.1 12 then
              jn (fun p35 : Unit =>
                Option.bind (d_349 n 3 a2 a1 r1.2) (fun r36 =>
                some (r36.1, r36.2)))
              (fun j222 =>
              if (r1.2.1 170 (ix x31.1)) = 1 then
                j222 ()
              else
                if a4 < 12 then
                  Option.bind (rec x31.1 a3 (a4 + 1) r1.2) (fun r37 =>
                  some (r37.1, r37.2))
                else
                  j222 ())
              else none
            else none
          else
            j202 ())
        else
          jn (fun p38 : Int32 =>
            Option.bind (d_349 n p38 a2 a1 r1.2) (fun r39 =>
            some (r39.1, r39.2)))
          (fun j180 =>
          if x31.2 = 0 then
            j180 1
          else
            j180 2)))
    (fun j66 =>
    if (lg_cmp v10 0) = 0 then
      j66 0
    else
      j66 1)))))))))
set_option maxRecDepth 100000 in
set_option maxHeartbeats 4000000 in
theorem sp_348 {rec : Int32 → Int32 → Int32 → cS → Option (Int32 × cS)} {Fr Lr F Lo n : Nat} {a1 : Int32} {a2 : Int32} {a3 : Int32} {a4 : Int32} {c y : cS} {w : cW} {K : Int32 × cS → Prop} {Q : ((Option Value) ⊕ String) → List va_E → Prop} (hw : rOK fm w) (hrec : ∀ {F Lo : Nat} {a1 : Int32} {a2 : Int32} {a3 : Int32} {c : cS} {K : Int32 × cS → Prop} {Q : ((Option Value) ⊕ String) → List va_E → Prop}, Fr ≤ F → Lr ≤ Lo → wp (rec a1 a2 a3 c) K → (∀ r, K r → Q (.inl (some (.int r.1))) (hq true r.2 y w)) → rs (rt_P sc fm) 347 F Lo 0 [(0, .ref 167), (1, .int a1), (2, .int a2), (3, .int a3)] [] (hq true c y w) Q) (hF : 5 ≤ F) (hLo : 108 ≤ Lo) (hFr : Fr + 1 ≤ F) (hLr : Lr + 27 ≤ Lo) (h : wp (d_348 rec n a1 a2 a3 a4 c) K) (hQ : ∀ r, K r → Q (.inl (some (.int r.1))) (hq true r.2 y w)) : rs (rt_P sc fm) 348 F Lo 0 [(0, .ref 167), (1, .int a1), (2, .int a2), (3, .int a3), (4, .int a4)] [] (hq true c y w) Q := by
  unfold d_348 at h
  obtain ⟨lv, elv⟩ : ∃ lv : rx_L, lv = [(0, .ref 167), (1, .int a1), (2, .int a2), (3, .int a3), (4, .int a4)] := ⟨_, rfl⟩
  rw [← elv]
  have l0 : rx_ld lv 0 = some (.ref 167) := by rw [elv]; rfl
  have l1 : rx_ld lv 1 = some (.int a1) := by rw [elv]; rfl
  have l2 : rx_ld lv 2 = some (.int a2) := by rw [elv]; rfl
  have l3 : rx_ld lv 3 = some (.int a3) := by rw [elv]; rfl
  have l4 : rx_ld lv 4 = some (.int a4) := by rw [elv]; rfl
  refine rs_aldn wi_348_0 l0 ?_
  refine dq_gr wi_348_1 wf_348_41 tf_167_2 ?_
  refine rs_ildn wi_348_4 l2 ?_
  refine rs_ildn wi_348_5 l3 ?_
  refine rs_V wi_348_6 wc_348_75 rfl (dq_isa tf_146_0 wa_4_180) (by omega) (ml_le wm_180 (by omega)) rfl (sp_180 hw (by omega) (ml_sub wm_180 (by omega)) (wp_bind h) (fun r1 h => rs_back1 ?_))
  refine rs_ifne (tg := 14) wi_348_9 ⟨by decide, by decide⟩ (fun q => ?_) (fun q => ?_)
  ·
    have h := wp_neg h q
    refine rs_aldn wi_348_14 l0 ?_
    refine dq_gr wi_348_15 wf_348_33 tf_167_0 ?_
    refine rs_aldn wi_348_18 l0 ?_
    refine rs_ildn wi_348_19 l3 ?_
    refine rs_ldcS wi_348_20 wk_348_122 ?_
    refine rs_SN wi_348_22 wc_348_56 rfl (by omega) (ml_le wm_351 (by omega)) rfl (sp_351 hq_len hw.2.2.2 (by omega) (ml_sub wm_351 (by omega)) wsb_46 (wp_bind h) (fun v2 h => rs_back1 ?_))
    refine rs_V wi_348_25 wc_348_82 rfl (dq_isa tf_167_0 wa_13_345) (by omega) (ml_le wm_345 (by omega)) rfl (sp_345 hw (by omega) (ml_sub wm_345 (by omega)) (wp_bind h) (fun v3 h => rs_back1 ?_))
    refine rs_V wi_348_28 wc_348_124 rfl (dq_isa tf_7_0 wa_9_249) (by omega) (ml_le wm_249 (by omega)) rfl (sp_249 hw (by omega) (ml_sub wm_249 (by omega)) (wp_bind h) (fun v4 h => rs_back1 ?_))
    refine dl_ist wi_348_31 rfl (fun lv l5 t5 => ?_)
    have l0 := t5 _ _ (by decide) (Or.inl rfl) l0
    have l1 := t5 _ _ (by decide) (Or.inl rfl) l1
    have l2 := t5 _ _ (by decide) (Or.inl rfl) l2
    have l3 := t5 _ _ (by decide) (Or.inl rfl) l3
    have l4 := t5 _ _ (by decide) (Or.inl rfl) l4
    refine rs_aldn wi_348_33 l0 ?_
    refine rs_ildn wi_348_34 l3 ?_
    refine rs_ldcS wi_348_35 wk_348_81 ?_
    refine rs_SN wi_348_37 wc_348_56 rfl (by omega) (ml_le wm_351 (by omega)) rfl (sp_351 hq_len hw.2.2.2 (by omega) (ml_sub wm_351 (by omega)) wsb_45 (wp_bind h) (fun v6 h => rs_back1 ?_))
    refine rs_V wi_348_40 wc_348_82 rfl (dq_isa tf_167_0 wa_13_345) (by omega) (ml_le wm_345 (by omega)) rfl (sp_345 hw (by omega) (ml_sub wm_345 (by omega)) (wp_bind h) (fun v7 h => rs_back1 ?_))
    refine dl_lst wi_348_43 rfl (fun lv l6 t8 => ?_)
    have l0 := t8 _ _ (by decide) (by decide) (Or.inl rfl) l0
    have l1 := t8 _ _ (by decide) (by decide) (Or.inl rfl) l1
    have l2 := t8 _ _ (by decide) (by decide) (Or.inl rfl) l2
    have l3 := t8 _ _ (by decide) (by decide) (Or.inl rfl) l3
    have l4 := t8 _ _ (by decide) (by decide) (Or.inl rfl) l4
    have l5 := t8 _ _ (by decide) (by decide) (Or.inl rfl) l5
    refine rs_aldn wi_348_45 l0 ?_
    refine rs_ildn wi_348_46 l3 ?_
    refine rs_ldcS wi_348_47 wk_348_127 ?_
    refine rs_SN wi_348_49 wc_348_56 rfl (by omega) (ml_le wm_351 (by omega)) rfl (sp_351 hq_len hw.2.2.2 (by omega) (ml_sub wm_351 (by omega)) wsb_47 (wp_bind h) (fun v9 h => rs_back1 ?_))
    refine rs_pure wi_348_52 rfl ?_
    refine rs_topi (v := 1) (by decide) ?_
    refine rs_V wi_348_53 wc_348_86 rfl (dq_isa tf_167_0 wa_13_346) (by omega) (ml_le wm_346 (by omega)) rfl (sp_346 hw (by omega) (ml_sub wm_346 (by omega)) (wp_bind h) (fun v10 h => rs_back1 ?_))
    refine rs_pure wi_348_56 rfl ?_
    refine rs_topl (v := 0) (by decide) ?_
    refine rs_pure wi_348_57 rfl ?_
    refine wp_jn (B := fun p11 : Int32 => ∀ lv, rx_ld lv 0 = some (.ref 167) → rx_ld lv 1 = some (.int a1) → rx_ld lv 2 = some (.int a2) → rx_ld lv 3 = some (.int a3) → rx_ld lv 4 = some (.int a4) → rx_ld lv 5 = some (.int v4) → rx_ld lv 6 = some (.long v7) → rs (rt_P sc fm) 348 F Lo 66 lv [.int p11] (hq true r1.2 y w) Q) h (fun p11 h lv l0 l1 l2 l3 l4 l5 l6 => ?_) (fun j66 hj66 h => ?_)
    ·
      refine dl_ist wi_348_66 rfl (fun lv l8 t12 => ?_)
      have l0 := t12 _ _ (by decide) (Or.inl rfl) l0
      have l1 := t12 _ _ (by decide) (Or.inl rfl) l1
      have l2 := t12 _ _ (by decide) (Or.inl rfl) l2
      have l3 := t12 _ _ (by decide) (Or.inl rfl) l3
      have l4 := t12 _ _ (by decide) (Or.inl rfl) l4
      have l5 := t12 _ _ (by decide) (Or.inl rfl) l5
      have l6 := t12 _ _ (by decide) (Or.inr (by decide)) l6
      refine rs_pure wi_348_68 rfl ?_
      refine rs_topi (v := (-1)) (by decide) ?_
      refine dl_ist wi_348_69 rfl (fun lv l9 t13 => ?_)
      have l0 := t13 _ _ (by decide) (Or.inl rfl) l0
      have l1 := t13 _ _ (by decide) (Or.inl rfl) l1
      have l2 := t13 _ _ (by decide) (Or.inl rfl) l2
      have l3 := t13 _ _ (by decide) (Or.inl rfl) l3
      have l4 := t13 _ _ (by decide) (Or.inl rfl) l4
      have l5 := t13 _ _ (by decide) (Or.inl rfl) l5
      have l6 := t13 _ _ (by decide) (Or.inr (by decide)) l6
      have l8 := t13 _ _ (by decide) (Or.inl rfl) l8
      refine rs_pure wi_348_71 rfl ?_
      refine rs_topi (v := 0) (by decide) ?_
      refine dl_ist wi_348_72 rfl (fun lv l10 t14 => ?_)
      have l0 := t14 _ _ (by decide) (Or.inl rfl) l0
      have l1 := t14 _ _ (by decide) (Or.inl rfl) l1
      have l2 := t14 _ _ (by decide) (Or.inl rfl) l2
      have l3 := t14 _ _ (by decide) (Or.inl rfl) l3
      have l4 := t14 _ _ (by decide) (Or.inl rfl) l4
      have l5 := t14 _ _ (by decide) (Or.inl rfl) l5
      have l6 := t14 _ _ (by decide) (Or.inr (by decide)) l6
      have l8 := t14 _ _ (by decide) (Or.inl rfl) l8
      have l9 := t14 _ _ (by decide) (Or.inl rfl) l9
      refine rs_pure wi_348_74 rfl ?_
      refine rs_topi (v := 0) (by decide) ?_
      refine dl_ist wi_348_75 rfl (fun lv l11 t15 => ?_)
      have l0 := t15 _ _ (by decide) (Or.inl rfl) l0
      have l1 := t15 _ _ (by decide) (Or.inl rfl) l1
      have l2 := t15 _ _ (by decide) (Or.inl rfl) l2
      have l3 := t15 _ _ (by decide) (Or.inl rfl) l3
      have l4 := t15 _ _ (by decide) (Or.inl rfl) l4
      have l5 := t15 _ _ (by decide) (Or.inl rfl) l5
      have l6 := t15 _ _ (by decide) (Or.inr (by decide)) l6
      have l8 := t15 _ _ (by decide) (Or.inl rfl) l8
      have l9 := t15 _ _ (by decide) (Or.inl rfl) l9
      have l10 := t15 _ _ (by decide) (Or.inl rfl) l10
      refine whl_ex (A := fun s16 : Int32 × Int32 × Int32 => ∀ lv, rx_ld lv 0 = some (.ref 167) → rx_ld lv 1 = some (.int a1) → rx_ld lv 2 = some (.int a2) → rx_ld lv 3 = some (.int a3) → rx_ld lv 4 = some (.int a4) → rx_ld lv 5 = some (.int v4) → rx_ld lv 6 = some (.long v7) → rx_ld lv 8 = some (.int p11) → rx_ld lv 9 = some (.int s16.1) → rx_ld lv 10 = some (.int s16.2.1) → rx_ld lv 11 = some (.int s16.2.2) → rs (rt_P sc fm) 348 F Lo 77 lv [] (hq true r1.2 y w) Q) (B := (fun x31 : Int32 × Int32 => ∀ lv, rx_ld lv 0 = some (.ref 167) → rx_ld lv 1 = some (.int a1) → rx_ld lv 2 = some (.int a2) → rx_ld lv 3 = some (.int a3) → rx_ld lv 4 = some (.int a4) → rx_ld lv 8 = some (.int p11) → rx_ld lv 9 = some (.int x31.1) → rx_ld lv 10 = some (.int x31.2) → rs (rt_P sc fm) 348 F Lo 163 lv [] (hq true r1.2 y w) Q)) ?_ ?_ _ _ (wp_bind h) _ l0 l1 l2 l3 l4 l5 l6 l8 l9 l10 l11
      · intro s16 h lv l0 l1 l2 l3 l4 l5 l6 l8 l9 l10 l11
        refine rs_ild wi_348_77 l11 ?_
        refine rs_aldn wi_348_79 l0 ?_
        refine dq_gr wi_348_80 wf_348_33 tf_167_0 ?_
        refine dq_gi wi_348_83 wf_348_66 tf_7_10 ?_
        refine rs_icge (tg := 163) wi_348_86 ⟨by decide, by decide⟩ (fun q => ?_) (fun q => ?_)
        ·
          have h := wp_pos h q
          exact h _ l0 l1 l2 l3 l4 l8 l9 l10
        ·
          have h := wp_neg h q
          refine rs_lld wi_348_89 l6 ?_
          refine rs_pure wi_348_91 rfl ?_
          refine rs_topl (v := 0) (by decide) ?_
          refine rs_pure wi_348_92 rfl ?_
          refine wp_jn (B := fun p17 : Int32 => ∀ lv, rx_ld lv 0 = some (.ref 167) → rx_ld lv 1 = some (.int a1) → rx_ld lv 2 = some (.int a2) → rx_ld lv 3 = some (.int a3) → rx_ld lv 4 = some (.int a4) → rx_ld lv 5 = some (.int v4) → rx_ld lv 6 = some (.long v7) → rx_ld lv 8 = some (.int p11) → rx_ld lv 9 = some (.int s16.1) → rx_ld lv 10 = some (.int s16.2.1) → rx_ld lv 11 = some (.int s16.2.2) → rs (rt_P sc fm) 348 F Lo 114 lv [.int p17] (hq true r1.2 y w) Q) h (fun p17 h lv l0 l1 l2 l3 l4 l5 l6 l8 l9 l10 l11 => ?_) (fun j114 hj114 h => ?_)
          ·
            refine dl_ist wi_348_114 rfl (fun lv l12 t18 => ?_)
            have l0 := t18 _ _ (by decide) (Or.inl rfl) l0
            have l1 := t18 _ _ (by decide) (Or.inl rfl) l1
            have l2 := t18 _ _ (by decide) (Or.inl rfl) l2
            have l3 := t18 _ _ (by decide) (Or.inl rfl) l3
            have l4 := t18 _ _ (by decide) (Or.inl rfl) l4
            have l5 := t18 _ _ (by decide) (Or.inl rfl) l5
            have l6 := t18 _ _ (by decide) (Or.inr (by decide)) l6
            have l8 := t18 _ _ (by decide) (Or.inl rfl) l8
            have l9 := t18 _ _ (by decide) (Or.inl rfl) l9
            have l10 := t18 _ _ (by decide) (Or.inl rfl) l10
            have l11 := t18 _ _ (by decide) (Or.inl rfl) l11
            refine rs_aldn wi_348_116 l0 ?_
            refine dq_gr wi_348_117 wf_348_9 tf_167_3 ?_
            refine rs_ild wi_348_120 l11 ?_
            obtain ⟨g19, h⟩ := wp_gd h
            refine dq_zald wi_348_122 t_168 g19 ?_
            refine wp_jn (B := fun p20 : Int32 × Int32 => ∀ lv, rx_ld lv 0 = some (.ref 167) → rx_ld lv 1 = some (.int a1) → rx_ld lv 2 = some (.int a2) → rx_ld lv 3 = some (.int a3) → rx_ld lv 4 = some (.int a4) → rx_ld lv 5 = some (.int v4) → rx_ld lv 6 = some (.long v7) → rx_ld lv 8 = some (.int p11) → rx_ld lv 9 = some (.int p20.1) → rx_ld lv 10 = some (.int p20.2) → rx_ld lv 11 = some (.int s16.2.2) → rs (rt_P sc fm) 348 F Lo 157 lv [] (hq true r1.2 y w) Q) h (fun p20 h lv l0 l1 l2 l3 l4 l5 l6 l8 l9 l10 l11 => ?_) (fun j157 hj157 h => ?_)
            ·
              obtain ⟨v22, e23, h⟩ := wp_lt h
              refine dl_inc wi_348_157 l11 rfl e23 (fun lv l11 t21 => ?_)
              have l0 := t21 _ _ (by decide) (Or.inl rfl) l0
              have l1 := t21 _ _ (by decide) (Or.inl rfl) l1
              have l2 := t21 _ _ (by decide) (Or.inl rfl) l2
              have l3 := t21 _ _ (by decide) (Or.inl rfl) l3
              have l4 := t21 _ _ (by decide) (Or.inl rfl) l4
              have l5 := t21 _ _ (by decide) (Or.inl rfl) l5
              have l6 := t21 _ _ (by decide) (Or.inr (by decide)) l6
              have l8 := t21 _ _ (by decide) (Or.inl rfl) l8
              have l9 := t21 _ _ (by decide) (Or.inl rfl) l9
              have l10 := t21 _ _ (by decide) (Or.inl rfl) l10
              refine rs_goto (tg := 77) wi_348_160 ⟨by decide, by decide⟩ ?_
              exact h _ l0 l1 l2 l3 l4 l5 l6 l8 l9 l10 l11
            refine rs_ifeq (tg := 157) wi_348_123 ⟨by decide, by decide⟩ (fun q => ?_) (fun q => ?_)
            ·
              have h := wp_pos h q
              exact hj157 _ h _ l0 l1 l2 l3 l4 l5 l6 l8 l9 l10 l11
            ·
              have h := wp_neg h q
              refine rs_ild wi_348_126 l5 ?_
              refine rs_iflt (tg := 157) wi_348_128 ⟨by decide, by decide⟩ (fun q => ?_) (fun q => ?_)
              ·
                have h := wp_pos h q
                exact hj157 _ h _ l0 l1 l2 l3 l4 l5 l6 l8 l9 l10 l11
              ·
                have h := wp_neg h q
                refine rs_ild wi_348_131 l12 ?_
                refine rs_ifeq (tg := 157) wi_348_133 ⟨by decide, by decide⟩ (fun q => ?_) (fun q => ?_)
                ·
                  have h := wp_pos h q
                  exact hj157 _ h _ l0 l1 l2 l3 l4 l5 l6 l8 l9 l10 l11
                ·
                  have h := wp_neg h q
                  refine rs_aldn wi_348_136 l0 ?_
                  refine dq_gr wi_348_137 wf_348_33 tf_167_0 ?_
                  refine rs_ild wi_348_140 l11 ?_
                  refine rs_ild wi_348_142 l5 ?_
                  refine rs_V wi_348_144 wc_348_129 rfl (dq_isa tf_7_0 wa_9_256) (by omega) (ml_le wm_256 (by omega)) rfl (sp_256 hw (by omega) (ml_sub wm_256 (by omega)) (wp_bind h) (fun v24 h => rs_back1 ?_))
                  refine rs_ifeq (tg := 157) wi_348_147 ⟨by decide, by decide⟩ (fun q => ?_) (fun q => ?_)
                  ·
                    have h := wp_pos h q
                    exact hj157 _ h _ l0 l1 l2 l3 l4 l5 l6 l8 l9 l10 l11
                  ·
                    have h := wp_neg h q
                    refine rs_ild wi_348_150 l11 ?_
                    refine dl_ist wi_348_152 rfl (fun lv l9 t25 => ?_)
                    have l0 := t25 _ _ (by decide) (Or.inl rfl) l0
                    have l1 := t25 _ _ (by decide) (Or.inl rfl) l1
                    have l2 := t25 _ _ (by decide) (Or.inl rfl) l2
                    have l3 := t25 _ _ (by decide) (Or.inl rfl) l3
                    have l4 := t25 _ _ (by decide) (Or.inl rfl) l4
                    have l5 := t25 _ _ (by decide) (Or.inl rfl) l5
                    have l6 := t25 _ _ (by decide) (Or.inr (by decide)) l6
                    have l8 := t25 _ _ (by decide) (Or.inl rfl) l8
                    have l10 := t25 _ _ (by decide) (Or.inl rfl) l10
                    have l11 := t25 _ _ (by decide) (Or.inl rfl) l11
                    obtain ⟨v27, e28, h⟩ := wp_lt h
                    refine dl_inc wi_348_154 l10 rfl e28 (fun lv l10 t26 => ?_)
                    have l0 := t26 _ _ (by decide) (Or.inl rfl) l0
                    have l1 := t26 _ _ (by decide) (Or.inl rfl) l1
                    have l2 := t26 _ _ (by decide) (Or.inl rfl) l2
                    have l3 := t26 _ _ (by decide) (Or.inl rfl) l3
                    have l4 := t26 _ _ (by decide) (Or.inl rfl) l4
                    have l5 := t26 _ _ (by decide) (Or.inl rfl) l5
                    have l6 := t26 _ _ (by decide) (Or.inr (by decide)) l6
                    have l8 := t26 _ _ (by decide) (Or.inl rfl) l8
                    have l9 := t26 _ _ (by decide) (Or.inl rfl) l9
                    have l11 := t26 _ _ (by decide) (Or.inl rfl) l11
                    exact hj157 _ h _ l0 l1 l2 l3 l4 l5 l6 l8 l9 l10 l11
          refine wp_jn (B := fun p29 : Unit => ∀ lv, rx_ld lv 0 = some (.ref 167) → rx_ld lv 1 = some (.int a1) → rx_ld lv 2 = some (.int a2) → rx_ld lv 3 = some (.int a3) → rx_ld lv 4 = some (.int a4) → rx_ld lv 5 = some (.int v4) → rx_ld lv 6 = some (.long v7) → rx_ld lv 8 = some (.int p11) → rx_ld lv 9 = some (.int s16.1) → rx_ld lv 10 = some (.int s16.2.1) → rx_ld lv 11 = some (.int s16.2.2) → rs (rt_P sc fm) 348 F Lo 109 lv [] (hq true r1.2 y w) Q) h (fun p29 h lv l0 l1 l2 l3 l4 l5 l6 l8 l9 l10 l11 => ?_) (fun j109 hj109 h => ?_)
          ·
            refine rs_pure wi_348_109 rfl ?_
            refine rs_topi (v := 1) (by decide) ?_
            refine rs_goto (tg := 114) wi_348_110 ⟨by decide, by decide⟩ ?_
            exact hj114 _ h _ l0 l1 l2 l3 l4 l5 l6 l8 l9 l10 l11
          refine rs_ifeq (tg := 109) wi_348_93 ⟨by decide, by decide⟩ (fun q => ?_) (fun q => ?_)
          ·
            have h := wp_pos h q
            exact hj109 _ h _ l0 l1 l2 l3 l4 l5 l6 l8 l9 l10 l11
          ·
            have h := wp_neg h q
            refine rs_aldn wi_348_96 l0 ?_
            refine dq_gr wi_348_97 wf_348_15 tf_167_4 ?_
            refine rs_ild wi_348_100 l11 ?_
            obtain ⟨g30, h⟩ := wp_gd h
            refine dq_lald wi_348_102 t_169 g30 ?_
            refine rs_lld wi_348_103 l6 ?_
            refine rs_pure wi_348_105 rfl ?_
            refine rs_ifne (tg := 113) wi_348_106 ⟨by decide, by decide⟩ (fun q => ?_) (fun q => ?_)
            ·
              have h := wp_neg h q
              refine rs_pure wi_348_113 rfl ?_
              refine rs_topi (v := 0) (by decide) ?_
              exact hj114 _ h _ l0 l1 l2 l3 l4 l5 l6 l8 l9 l10 l11
            ·
              have h := wp_pos h q
              exact hj109 _ h _ l0 l1 l2 l3 l4 l5 l6 l8 l9 l10 l11
      ·
        intro x31 h lv l0 l1 l2 l3 l4 l8 l9 l10
        refine rs_ild wi_348_163 l10 ?_
        refine rs_pure wi_348_165 rfl ?_
        refine rs_topi (v := 1) (by decide) ?_
        refine rs_iceq (tg := 186) wi_348_166 ⟨by decide, by decide⟩ (fun q => ?_) (fun q => ?_)
        ·
          have h := wp_pos h q
          refine rs_ild wi_348_186 l8 ?_
          refine wp_jn (B := fun p32 : Unit => ∀ lv, rs (rt_P sc fm) 348 F Lo 202 lv [] (hq true r1.2 y w) Q) h (fun p32 h lv => ?_) (fun j202 hj202 h => ?_)
          ·
            refine rs_pure wi_348_202 rfl ?_
            refine rs_topi (v := 0) (by decide) ?_
            exact rs_iret wi_348_203 wr_348 rfl (hQ (0, r1.2) h)
          refine rs_ifne (tg := 202) wi_348_188 ⟨by decide, by decide⟩ (fun q => ?_) (fun q => ?_)
          ·
            have h := wp_neg h q
            exact hj202 _ h _
          ·
            have h := wp_pos h q
            refine rs_aldn wi_348_191 l0 ?_
            refine dq_gr wi_348_192 wf_348_19 tf_167_5 ?_
            refine rs_ild wi_348_195 l9 ?_
            obtain ⟨g33, h⟩ := wp_gd h
            refine dq_iald wi_348_197 t_170 g33 ?_
            refine rs_pure wi_348_198 rfl ?_
            refine rs_topi (v := 2) (by decide) ?_
            refine rs_icne (tg := 204) wi_348_199 ⟨by decide, by decide⟩ (fun q => ?_) (fun q => ?_)
            ·
              have h := wp_neg h q
              refine rs_aldn wi_348_204 l0 ?_
              refine dq_gr wi_348_205 wf_348_19 tf_167_5 ?_
              refine rs_ild wi_348_208 l9 ?_
              obtain ⟨g34, h⟩ := wp_gd h
              refine dq_iald wi_348_210 t_170 g34 ?_
              refine rs_pure wi_348_211 rfl ?_
              refine rs_topi (v := 1) (by decide) ?_
              refine wp_jn (B := fun p35 : Unit => ∀ lv, rx_ld lv 0 = some (.ref 167) → rx_ld lv 1 = some (.int a1) → rx_ld lv 2 = some (.int a2) → rs (rt_P sc fm) 348 F Lo 222 lv [] (hq true r1.2 y w) Q) h (fun p35 h lv l0 l1 l2 => ?_) (fun j222 hj222 h => ?_)
              ·
                refine rs_aldn wi_348_222 l0 ?_
                refine rs_pure wi_348_223 rfl ?_
                refine rs_topi (v := 3) (by decide) ?_
                refine rs_ildn wi_348_224 l2 ?_
                refine rs_ildn wi_348_225 l1 ?_
                refine rs_V wi_348_226 wc_348_133 rfl (dq_isa tf_167_0 wa_13_349) (by omega) (ml_le wm_349 (by omega)) rfl (sp_349 hw (by omega) (ml_sub wm_349 (by omega)) (wp_bind h) (fun r36 h => rs_back1 ?_))
                exact rs_iret wi_348_229 wr_348 rfl (hQ (r36.1, r36.2) h)
              refine rs_iceq (tg := 222) wi_348_212 ⟨by decide, by decide⟩ (fun q => ?_) (fun q => ?_)
              ·
                have h := wp_pos h q
                exact hj222 _ h _ l0 l1 l2
              ·
                have h := wp_neg h q
                refine rs_ild wi_348_215 l4 ?_
                refine rs_pure wi_348_217 rfl ?_
                refine rs_topi (v := 12) (by decide) ?_
                refine rs_iclt (tg := 230) wi_348_219 ⟨by decide, by decide⟩ (fun q => ?_) (fun q => ?_)
                ·
                  have h := wp_pos h q
                  refine rs_aldn wi_348_230 l0 ?_
                  refine rs_ild wi_348_231 l9 ?_
                  refine rs_ildn wi_348_233 l3 ?_
                  refine rs_ild wi_348_234 l4 ?_
                  refine rs_pure wi_348_236 rfl ?_
                  refine rs_topi (v := 1) (by decide) ?_
                  refine rs_pure wi_348_237 rfl ?_
                  refine rs_V wi_348_238 wc_348_69 rfl (dq_isa tf_167_0 wa_13_347) (by omega) (ml_le wm_347 (by omega)) rfl (hrec (by omega) (ml_sub wm_347 (by omega)) (wp_bind h) (fun r37 h => rs_back1 ?_))
                  exact rs_iret wi_348_241 wr_348 rfl (hQ (r37.1, r37.2) h)
                ·
                  have h := wp_neg h q
                  exact hj222 _ h _ l0 l1 l2
            ·
              have h := wp_pos h q
              exact hj202 _ h _
        ·
          have h := wp_neg h q
          refine rs_aldn wi_348_169 l0 ?_
          refine rs_ild wi_348_170 l10 ?_
          refine wp_jn (B := fun p38 : Int32 => ∀ lv, rx_ld lv 1 = some (.int a1) → rx_ld lv 2 = some (.int a2) → rs (rt_P sc fm) 348 F Lo 180 lv [.int p38, .ref 167] (hq true r1.2 y w) Q) h (fun p38 h lv l1 l2 => ?_) (fun j180 hj180 h => ?_)
          ·
            refine rs_ildn wi_348_180 l2 ?_
            refine rs_ildn wi_348_181 l1 ?_
            refine rs_V wi_348_182 wc_348_133 rfl (dq_isa tf_167_0 wa_13_349) (by omega) (ml_le wm_349 (by omega)) rfl (sp_349 hw (by omega) (ml_sub wm_349 (by omega)) (wp_bind h) (fun r39 h => rs_back1 ?_))
            exact rs_iret wi_348_185 wr_348 rfl (hQ (r39.1, r39.2) h)
          refine rs_ifne (tg := 179) wi_348_172 ⟨by decide, by decide⟩ (fun q => ?_) (fun q => ?_)
          ·
            have h := wp_neg h q
            refine rs_pure wi_348_179 rfl ?_
            refine rs_topi (v := 2) (by decide) ?_
            exact hj180 _ h _ l1 l2
          ·
            have h := wp_pos h q
            refine rs_pure wi_348_175 rfl ?_
            refine rs_topi (v := 1) (by decide) ?_
            refine rs_goto (tg := 180) wi_348_176 ⟨by decide, by decide⟩ ?_
            exact hj180 _ h _ l1 l2
    refine rs_ifeq (tg := 65) wi_348_58 ⟨by decide, by decide⟩ (fun q => ?_) (fun q => ?_)
    ·
      have h := wp_pos h q
      refine rs_pure wi_348_65 rfl ?_
      refine rs_topi (v := 0) (by decide) ?_
      exact hj66 _ h _ l0 l1 l2 l3 l4 l5 l6
    ·
      have h := wp_neg h q
      refine rs_pure wi_348_61 rfl ?_
      refine rs_topi (v := 1) (by decide) ?_
      refine rs_goto (tg := 66) wi_348_62 ⟨by decide, by decide⟩ ?_
      exact hj66 _ h _ l0 l1 l2 l3 l4 l5 l6
  ·
    have h := wp_pos h q
    refine rs_pure wi_348_12 rfl ?_
    refine rs_topi (v := 0) (by decide) ?_
    exact rs_iret wi_348_13 wr_348 rfl (hQ (0, r1.2) h)
theorem wa_13_348 : rz_cn 13 (rx_yn (rt_P sc fm) 348).cls = true := (by decide +kernel : rz_cn 13 (rt_yn 348).cls = true)
theorem wc_347_112 : rx_ct (rt_P sc fm) 347 112 = some (0, 255, 2) := (by decide +kernel : rt_ct 347 112 = some (0, 255, 2))
theorem wc_347_118 : rx_ct (rt_P sc fm) 347 118 = some (0, 348, 4) := (by decide +kernel : rt_ct 347 118 = some (0, 348, 4))
theorem wf_347_115 : rx_ft (rt_P sc fm) 347 115 = some (9, 11) := (by decide +kernel : rt_ft 347 115 = some (9, 11))
theorem wf_347_19 : rx_ft (rt_P sc fm) 347 19 = some (13, 5) := (by decide +kernel : rt_ft 347 19 = some (13, 5))
theorem wf_347_23 : rx_ft (rt_P sc fm) 347 23 = some (13, 6) := (by decide +kernel : rt_ft 347 23 = some (13, 6))
theorem wf_347_33 : rx_ft (rt_P sc fm) 347 33 = some (13, 0) := (by decide +kernel : rt_ft 347 33 = some (13, 0))
theorem wf_347_45 : rx_ft (rt_P sc fm) 347 45 = some (13, 7) := (by decide +kernel : rt_ft 347 45 = some (13, 7))
theorem wi_347_0 : ri (rt_P sc fm) 347 0 (.aload_n 0) (1) := ri_of (by decide +kernel) rfl
theorem wi_347_1 : ri (rt_P sc fm) 347 1 (.getfield 19) (4) := ri_of (by decide +kernel) rfl
theorem wi_347_100 : ri (rt_P sc fm) 347 100 (.iastore) (101) := ri_of (by decide +kernel) rfl
theorem wi_347_101 : ri (rt_P sc fm) 347 101 (.aload_n 0) (102) := ri_of (by decide +kernel) rfl
theorem wi_347_102 : ri (rt_P sc fm) 347 102 (.getfield 23) (105) := ri_of (by decide +kernel) rfl
theorem wi_347_105 : ri (rt_P sc fm) 347 105 (.aload_n 0) (106) := ri_of (by decide +kernel) rfl
theorem wi_347_106 : ri (rt_P sc fm) 347 106 (.dup) (107) := ri_of (by decide +kernel) rfl
theorem wi_347_107 : ri (rt_P sc fm) 347 107 (.getfield 45) (110) := ri_of (by decide +kernel) rfl
theorem wi_347_11 : ri (rt_P sc fm) 347 11 (.iload 4) (13) := ri_of (by decide +kernel) rfl
theorem wi_347_110 : ri (rt_P sc fm) 347 110 (.dup_x1) (111) := ri_of (by decide +kernel) rfl
theorem wi_347_111 : ri (rt_P sc fm) 347 111 (.iconst 1) (112) := ri_of (by decide +kernel) rfl
theorem wi_347_112 : ri (rt_P sc fm) 347 112 (.iadd) (113) := ri_of (by decide +kernel) rfl
theorem wi_347_113 : ri (rt_P sc fm) 347 113 (.putfield 45) (116) := ri_of (by decide +kernel) rfl
theorem wi_347_116 : ri (rt_P sc fm) 347 116 (.iload_n 1) (117) := ri_of (by decide +kernel) rfl
theorem wi_347_117 : ri (rt_P sc fm) 347 117 (.iastore) (118) := ri_of (by decide +kernel) rfl
theorem wi_347_118 : ri (rt_P sc fm) 347 118 (.iconst 0) (119) := ri_of (by decide +kernel) rfl
theorem wi_347_119 : ri (rt_P sc fm) 347 119 (.ireturn) (120) := ri_of (by decide +kernel) rfl
theorem wi_347_13 : ri (rt_P sc fm) 347 13 (.ifCond .lt 81) (16) := ri_of (by decide +kernel) rfl
theorem wi_347_16 : ri (rt_P sc fm) 347 16 (.iload_n 2) (17) := ri_of (by decide +kernel) rfl
theorem wi_347_17 : ri (rt_P sc fm) 347 17 (.ifCond .lt 77) (20) := ri_of (by decide +kernel) rfl
theorem wi_347_20 : ri (rt_P sc fm) 347 20 (.aload_n 0) (21) := ri_of (by decide +kernel) rfl
theorem wi_347_21 : ri (rt_P sc fm) 347 21 (.getfield 33) (24) := ri_of (by decide +kernel) rfl
theorem wi_347_24 : ri (rt_P sc fm) 347 24 (.iload_n 1) (25) := ri_of (by decide +kernel) rfl
theorem wi_347_25 : ri (rt_P sc fm) 347 25 (.iload 4) (27) := ri_of (by decide +kernel) rfl
theorem wi_347_27 : ri (rt_P sc fm) 347 27 (.invokevirtual 112) (30) := ri_of (by decide +kernel) rfl
theorem wi_347_30 : ri (rt_P sc fm) 347 30 (.istore 5) (32) := ri_of (by decide +kernel) rfl
theorem wi_347_32 : ri (rt_P sc fm) 347 32 (.iconst 0) (33) := ri_of (by decide +kernel) rfl
theorem wi_347_33 : ri (rt_P sc fm) 347 33 (.istore 6) (35) := ri_of (by decide +kernel) rfl
theorem wi_347_35 : ri (rt_P sc fm) 347 35 (.iload 5) (37) := ri_of (by decide +kernel) rfl
theorem wi_347_37 : ri (rt_P sc fm) 347 37 (.ifCond .lt 51) (40) := ri_of (by decide +kernel) rfl
theorem wi_347_4 : ri (rt_P sc fm) 347 4 (.iload_n 1) (5) := ri_of (by decide +kernel) rfl
theorem wi_347_40 : ri (rt_P sc fm) 347 40 (.iload 6) (42) := ri_of (by decide +kernel) rfl
theorem wi_347_42 : ri (rt_P sc fm) 347 42 (.aload_n 0) (43) := ri_of (by decide +kernel) rfl
theorem wi_347_43 : ri (rt_P sc fm) 347 43 (.getfield 33) (46) := ri_of (by decide +kernel) rfl
theorem wi_347_46 : ri (rt_P sc fm) 347 46 (.getfield 115) (49) := ri_of (by decide +kernel) rfl
theorem wi_347_49 : ri (rt_P sc fm) 347 49 (.iload 5) (51) := ri_of (by decide +kernel) rfl
theorem wi_347_5 : ri (rt_P sc fm) 347 5 (.iconst 1) (6) := ri_of (by decide +kernel) rfl
theorem wi_347_51 : ri (rt_P sc fm) 347 51 (.iaload) (52) := ri_of (by decide +kernel) rfl
theorem wi_347_52 : ri (rt_P sc fm) 347 52 (.if_icmp .ge 36) (55) := ri_of (by decide +kernel) rfl
theorem wi_347_55 : ri (rt_P sc fm) 347 55 (.aload_n 0) (56) := ri_of (by decide +kernel) rfl
theorem wi_347_56 : ri (rt_P sc fm) 347 56 (.iload_n 1) (57) := ri_of (by decide +kernel) rfl
theorem wi_347_57 : ri (rt_P sc fm) 347 57 (.bipush 100) (59) := ri_of (by decide +kernel) rfl
theorem wi_347_59 : ri (rt_P sc fm) 347 59 (.iload 5) (61) := ri_of (by decide +kernel) rfl
theorem wi_347_6 : ri (rt_P sc fm) 347 6 (.iastore) (7) := ri_of (by decide +kernel) rfl
theorem wi_347_61 : ri (rt_P sc fm) 347 61 (.imul) (62) := ri_of (by decide +kernel) rfl
theorem wi_347_62 : ri (rt_P sc fm) 347 62 (.iconst 1) (63) := ri_of (by decide +kernel) rfl
theorem wi_347_63 : ri (rt_P sc fm) 347 63 (.iadd) (64) := ri_of (by decide +kernel) rfl
theorem wi_347_64 : ri (rt_P sc fm) 347 64 (.iload 6) (66) := ri_of (by decide +kernel) rfl
theorem wi_347_66 : ri (rt_P sc fm) 347 66 (.iadd) (67) := ri_of (by decide +kernel) rfl
theorem wi_347_67 : ri (rt_P sc fm) 347 67 (.iload_n 2) (68) := ri_of (by decide +kernel) rfl
theorem wi_347_68 : ri (rt_P sc fm) 347 68 (.iload_n 3) (69) := ri_of (by decide +kernel) rfl
theorem wi_347_69 : ri (rt_P sc fm) 347 69 (.invokevirtual 118) (72) := ri_of (by decide +kernel) rfl
theorem wi_347_7 : ri (rt_P sc fm) 347 7 (.bipush 12) (9) := ri_of (by decide +kernel) rfl
theorem wi_347_72 : ri (rt_P sc fm) 347 72 (.istore 7) (74) := ri_of (by decide +kernel) rfl
theorem wi_347_74 : ri (rt_P sc fm) 347 74 (.iload 7) (76) := ri_of (by decide +kernel) rfl
theorem wi_347_76 : ri (rt_P sc fm) 347 76 (.ifCond .eq 6) (79) := ri_of (by decide +kernel) rfl
theorem wi_347_79 : ri (rt_P sc fm) 347 79 (.iload 7) (81) := ri_of (by decide +kernel) rfl
theorem wi_347_81 : ri (rt_P sc fm) 347 81 (.ireturn) (82) := ri_of (by decide +kernel) rfl
theorem wi_347_82 : ri (rt_P sc fm) 347 82 (.iinc 6 1) (85) := ri_of (by decide +kernel) rfl
theorem wi_347_85 : ri (rt_P sc fm) 347 85 (.goto (-50)) (88) := ri_of (by decide +kernel) rfl
theorem wi_347_88 : ri (rt_P sc fm) 347 88 (.iinc 4 (-1)) (91) := ri_of (by decide +kernel) rfl
theorem wi_347_9 : ri (rt_P sc fm) 347 9 (.istore 4) (11) := ri_of (by decide +kernel) rfl
theorem wi_347_91 : ri (rt_P sc fm) 347 91 (.goto (-80)) (94) := ri_of (by decide +kernel) rfl
theorem wi_347_94 : ri (rt_P sc fm) 347 94 (.aload_n 0) (95) := ri_of (by decide +kernel) rfl
theorem wi_347_95 : ri (rt_P sc fm) 347 95 (.getfield 19) (98) := ri_of (by decide +kernel) rfl
theorem wi_347_98 : ri (rt_P sc fm) 347 98 (.iload_n 1) (99) := ri_of (by decide +kernel) rfl
theorem wi_347_99 : ri (rt_P sc fm) 347 99 (.iconst 2) (100) := ri_of (by decide +kernel) rfl
theorem wm_348 : rx_ml (rt_P sc fm) 348 = 13 := (by decide +kernel : rt_ml 348 = 13)
theorem wp_347_45 : rx_pt (rt_P sc fm) 347 45 = some (13, 7, .int) := (by decide +kernel : rt_pt 347 45 = some (13, 7, .int))
theorem wr_347 : rx_rt (rt_P sc fm) 347 = (some FieldType.int) := (by decide +kernel : rt_rt 347 = (some FieldType.int))
/-- MarkHouse$Wiring.make(III)I -/
def d_347 : Nat → Nat → Int32 → Int32 → Int32 → cS → Option (Int32 × cS)
  | 0, _, _, _, _, _ => none
  | e + 1, n, a1, a2, a3, c =>
  if ib a1 12 then
  lt (pI c 170 (ix a1) 1) (fun c2 =>
  Option.bind (whl (R := (cS) ⊕ (Int32 × cS)) (fun s5 : Int32 × cS =>
    if s5.1 < 0 then
      some (.inr (.inl s5.2))
    else
      if a2 < 0 then
        some (.inr (.inl s5.2))
      else
        Option.bind (d_255 n a1 s5.1 s5.2) (fun v6 =>
        Option.bind (whl (R := (cS) ⊕ (Int32 × cS)) (fun s9 : Int32 × cS =>
          if v6 < 0 then
            some (.inr (.inl s9.2))
          else
            if ib v6 12 then
            if (s9.2.1 14 (ix v6)) ≤ s9.1 then
              some (.inr (.inl s9.2))
            else
              Option.bind (d_348 (d_347 e n) n a1 (((100 * v6) + 1) + s9.1) a2 a3 s9.2) (fun r11 =>
              if r11.1 = 0 then
                lt (s9.1 + 1 : Int32) (fun v14 =>
                some (.inl (v14, r11.2)))
              else
                some (.inr (.inr (r11.1, r11.2))))
            else none) n (0, s5.2))
        (Sum.elim (fun x16 : cS =>
          lt (s5.1 + (-1) : Int32) (fun v18 =>
          some (.inl (v18, x16))))
        (fun x20 : Int32 × cS =>
          some (.inr (.inr (x20.1, x20.2))))))) n (12, c2))
  (Sum.elim (fun x21 : cS =>
    if ib a1 12 then
    lt (pI x21 170 (ix a1) 2) (fun c23 =>
    lt (pI c23 167 7 ((c23.1 167 7) + 1)) (fun c25 =>
    if ib (c23.1 167 7) 12 then
    lt (pI c25 171 (ix (c23.1 167 7)) a1) (fun c28 =>
    some (0, c28))
    else none))
    else none)
  (fun x30 : Int32 × cS =>
    some (x30.1, x30.2))))
  else none
set_option maxRecDepth 100000 in
set_option maxHeartbeats 4000000 in
theorem sp_347 {n : Nat} {y : cS} {w : cW} (hw : rOK fm w) : ∀ (e : Nat) {F Lo : Nat} {a1 : Int32} {a2 : Int32} {a3 : Int32} {c : cS} {K : Int32 × cS → Prop} {Q : ((Option Value) ⊕ String) → List va_E → Prop}, 6 + 2 * e ≤ F → 140 + 59 * e ≤ Lo → wp (d_347 e n a1 a2 a3 c) K → (∀ r, K r → Q (.inl (some (.int r.1))) (hq true r.2 y w)) → rs (rt_P sc fm) 347 F Lo 0 [(0, .ref 167), (1, .int a1), (2, .int a2), (3, .int a3)] [] (hq true c y w) Q
  | 0, _, _, _, _, _, _, _, _, _, _, h, _ => h.elim
  | e + 1, F, Lo, a1, a2, a3, c, K, Q, hF, hLo, h, hQ => by
    unfold d_347 at h
    obtain ⟨lv, elv⟩ : ∃ lv : rx_L, lv = [(0, .ref 167), (1, .int a1), (2, .int a2), (3, .int a3)] := ⟨_, rfl⟩
    rw [← elv]
    have l0 : rx_ld lv 0 = some (.ref 167) := by rw [elv]; rfl
    have l1 : rx_ld lv 1 = some (.int a1) := by rw [elv]; rfl
    have l2 : rx_ld lv 2 = some (.int a2) := by rw [elv]; rfl
    have l3 : rx_ld lv 3 = some (.int a3) := by rw [elv]; rfl
    refine rs_aldn wi_347_0 l0 ?_
    refine dq_gr wi_347_1 wf_347_19 tf_167_5 ?_
    refine rs_ildn wi_347_4 l1 ?_
    refine rs_pure wi_347_5 rfl ?_
    refine rs_topi (v := 1) (by decide) ?_
    obtain ⟨g1, h⟩ := wp_gd h
    obtain ⟨c2, e3, h⟩ := wp_lt h
    refine dq_iast wi_347_6 t_170 g1 e3 ?_
    refine rs_pure wi_347_7 rfl ?_
    refine rs_topi (v := 12) (by decide) ?_
    refine dl_ist wi_347_9 rfl (fun lv l4 t4 => ?_)
    have l0 := t4 _ _ (by decide) (Or.inl rfl) l0
    have l1 := t4 _ _ (by decide) (Or.inl rfl) l1
    have l2 := t4 _ _ (by decide) (Or.inl rfl) l2
    have l3 := t4 _ _ (by decide) (Or.inl rfl) l3
    refine whl_ex (A := fun s5 : Int32 × cS => ∀ lv, rx_ld lv 0 = some (.ref 167) → rx_ld lv 1 = some (.int a1) → rx_ld lv 2 = some (.int a2) → rx_ld lv 3 = some (.int a3) → rx_ld lv 4 = some (.int s5.1) → rs (rt_P sc fm) 347 F Lo 11 lv [] (hq true s5.2 y w) Q) (B := (Sum.elim (fun x21 : cS => ∀ lv, rx_ld lv 0 = some (.ref 167) → rx_ld lv 1 = some (.int a1) → rs (rt_P sc fm) 347 F Lo 94 lv [] (hq true x21 y w) Q) (fun x30 : Int32 × cS => ∀ lv, rx_ld lv 7 = some (.int x30.1) → rs (rt_P sc fm) 347 F Lo 79 lv [] (hq true x30.2 y w) Q))) ?_ ?_ _ _ (wp_bind h) _ l0 l1 l2 l3 l4
    · intro s5 h lv l0 l1 l2 l3 l4
      refine rs_ild wi_347_11 l4 ?_
      refine rs_iflt (tg := 94) wi_347_13 ⟨by decide, by decide⟩ (fun q => ?_) (fun q => ?_)
      ·
        have h := wp_pos h q
        exact h _ l0 l1
      ·
        have h := wp_neg h q
        refine rs_ildn wi_347_16 l2 ?_
        refine rs_iflt (tg := 94) wi_347_17 ⟨by decide, by decide⟩ (fun q => ?_) (fun q => ?_)
        ·
          have h := wp_pos h q
          exact h _ l0 l1
        ·
          have h := wp_neg h q
          refine rs_aldn wi_347_20 l0 ?_
          refine dq_gr wi_347_21 wf_347_33 tf_167_0 ?_
          refine rs_ildn wi_347_24 l1 ?_
          refine rs_ild wi_347_25 l4 ?_
          refine rs_V wi_347_27 wc_347_112 rfl (dq_isa tf_7_0 wa_9_255) (by omega) (ml_le wm_255 (by omega)) rfl (sp_255 hw (by omega) (ml_sub wm_255 (by omega)) (wp_bind h) (fun v6 h => rs_back1 ?_))
          refine dl_ist wi_347_30 rfl (fun lv l5 t7 => ?_)
          have l0 := t7 _ _ (by decide) (Or.inl rfl) l0
          have l1 := t7 _ _ (by decide) (Or.inl rfl) l1
          have l2 := t7 _ _ (by decide) (Or.inl rfl) l2
          have l3 := t7 _ _ (by decide) (Or.inl rfl) l3
          have l4 := t7 _ _ (by decide) (Or.inl rfl) l4
          refine rs_pure wi_347_32 rfl ?_
          refine rs_topi (v := 0) (by decide) ?_
          refine dl_ist wi_347_33 rfl (fun lv l6 t8 => ?_)
          have l0 := t8 _ _ (by decide) (Or.inl rfl) l0
          have l1 := t8 _ _ (by decide) (Or.inl rfl) l1
          have l2 := t8 _ _ (by decide) (Or.inl rfl) l2
          have l3 := t8 _ _ (by decide) (Or.inl rfl) l3
          have l4 := t8 _ _ (by decide) (Or.inl rfl) l4
          have l5 := t8 _ _ (by decide) (Or.inl rfl) l5
          refine whl_ex (A := fun s9 : Int32 × cS => ∀ lv, rx_ld lv 0 = some (.ref 167) → rx_ld lv 1 = some (.int a1) → rx_ld lv 2 = some (.int a2) → rx_ld lv 3 = some (.int a3) → rx_ld lv 4 = some (.int s5.1) → rx_ld lv 5 = some (.int v6) → rx_ld lv 6 = some (.int s9.1) → rs (rt_P sc fm) 347 F Lo 35 lv [] (hq true s9.2 y w) Q) (B := (Sum.elim (fun x16 : cS => ∀ lv, rx_ld lv 0 = some (.ref 167) → rx_ld lv 1 = some (.int a1) → rx_ld lv 2 = some (.int a2) → rx_ld lv 3 = some (.int a3) → rx_ld lv 4 = some (.int s5.1) → rs (rt_P sc fm) 347 F Lo 88 lv [] (hq true x16 y w) Q) (fun x20 : Int32 × cS => ∀ lv, rx_ld lv 7 = some (.int x20.1) → rs (rt_P sc fm) 347 F Lo 79 lv [] (hq true x20.2 y w) Q))) ?_ ?_ _ _ (wp_bind h) _ l0 l1 l2 l3 l4 l5 l6
          · intro s9 h lv l0 l1 l2 l3 l4 l5 l6
            refine rs_ild wi_347_35 l5 ?_
            refine rs_iflt (tg := 88) wi_347_37 ⟨by decide, by decide⟩ (fun q => ?_) (fun q => ?_)
            ·
              have h := wp_pos h q
              exact h _ l0 l1 l2 l3 l4
            ·
              have h := wp_neg h q
              refine rs_ild wi_347_40 l6 ?_
              refine rs_aldn wi_347_42 l0 ?_
              refine dq_gr wi_347_43 wf_347_33 tf_167_0 ?_
              refine dq_gr wi_347_46 wf_347_115 tf_7_11 ?_
              refine rs_ild wi_347_49 l5 ?_
              obtain ⟨g10, h⟩ := wp_gd h
              refine dq_iald wi_347_51 t_14 g10 ?_
              refine rs_icge (tg := 88) wi_347_52 ⟨by decide, by decide⟩ (fun q => ?_) (fun q => ?_)
              ·
                have h := wp_pos h q
                exact h _ l0 l1 l2 l3 l4
              ·
                have h := wp_neg h q
                refine rs_aldn wi_347_55 l0 ?_
                refine rs_ildn wi_347_56 l1 ?_
                refine rs_pure wi_347_57 rfl ?_
                refine rs_topi (v := 100) (by decide) ?_
                refine rs_ild wi_347_59 l5 ?_
                refine rs_pure wi_347_61 rfl ?_
                refine rs_pure wi_347_62 rfl ?_
                refine rs_topi (v := 1) (by decide) ?_
                refine rs_pure wi_347_63 rfl ?_
                refine rs_ild wi_347_64 l6 ?_
                refine rs_pure wi_347_66 rfl ?_
                refine rs_ildn wi_347_67 l2 ?_
                refine rs_ildn wi_347_68 l3 ?_
                refine rs_V wi_347_69 wc_347_118 rfl (dq_isa tf_167_0 wa_13_348) (by omega) (ml_le wm_348 (by omega)) rfl (sp_348 (Fr := 6 + 2 * e) (Lr := 140 + 59 * e) hw (sp_347 hw e) (by omega) (ml_sub wm_348 (by omega)) (by omega) (ml_sub wm_348 (by omega)) (wp_bind h) (fun r11 h => rs_back1 ?_))
                refine dl_ist wi_347_72 rfl (fun lv l7 t12 => ?_)
                have l0 := t12 _ _ (by decide) (Or.inl rfl) l0
                have l1 := t12 _ _ (by decide) (Or.inl rfl) l1
                have l2 := t12 _ _ (by decide) (Or.inl rfl) l2
                have l3 := t12 _ _ (by decide) (Or.inl rfl) l3
                have l4 := t12 _ _ (by decide) (Or.inl rfl) l4
                have l5 := t12 _ _ (by decide) (Or.inl rfl) l5
                have l6 := t12 _ _ (by decide) (Or.inl rfl) l6
                refine rs_ild wi_347_74 l7 ?_
                refine rs_ifeq (tg := 82) wi_347_76 ⟨by decide, by decide⟩ (fun q => ?_) (fun q => ?_)
                ·
                  have h := wp_pos h q
                  obtain ⟨v14, e15, h⟩ := wp_lt h
                  refine dl_inc wi_347_82 l6 rfl e15 (fun lv l6 t13 => ?_)
                  have l0 := t13 _ _ (by decide) (Or.inl rfl) l0
                  have l1 := t13 _ _ (by decide) (Or.inl rfl) l1
                  have l2 := t13 _ _ (by decide) (Or.inl rfl) l2
                  have l3 := t13 _ _ (by decide) (Or.inl rfl) l3
                  have l4 := t13 _ _ (by decide) (Or.inl rfl) l4
                  have l5 := t13 _ _ (by decide) (Or.inl rfl) l5
                  refine rs_goto (tg := 35) wi_347_85 ⟨by decide, by decide⟩ ?_
                  exact h _ l0 l1 l2 l3 l4 l5 l6
                ·
                  have h := wp_neg h q
                  exact h _ l7
          ·
            refine sum_all ?_ ?_
            ·
              intro x16 h lv l0 l1 l2 l3 l4
              have h := wp_inl h
              obtain ⟨v18, e19, h⟩ := wp_lt h
              refine dl_inc wi_347_88 l4 rfl e19 (fun lv l4 t17 => ?_)
              have l0 := t17 _ _ (by decide) (Or.inl rfl) l0
              have l1 := t17 _ _ (by decide) (Or.inl rfl) l1
              have l2 := t17 _ _ (by decide) (Or.inl rfl) l2
              have l3 := t17 _ _ (by decide) (Or.inl rfl) l3
              refine rs_goto (tg := 11) wi_347_91 ⟨by decide, by decide⟩ ?_
              exact h _ l0 l1 l2 l3 l4
            ·
              intro x20 h lv l7
              have h := wp_inr h
              exact h _ l7
    ·
      refine sum_all ?_ ?_
      ·
        intro x21 h lv l0 l1
        have h := wp_inl h
        refine rs_aldn wi_347_94 l0 ?_
        refine dq_gr wi_347_95 wf_347_19 tf_167_5 ?_
        refine rs_ildn wi_347_98 l1 ?_
        refine rs_pure wi_347_99 rfl ?_
        refine rs_topi (v := 2) (by decide) ?_
        obtain ⟨g22, h⟩ := wp_gd h
        obtain ⟨c23, e24, h⟩ := wp_lt h
        refine dq_iast wi_347_100 t_170 g22 e24 ?_
        refine rs_aldn wi_347_101 l0 ?_
        refine dq_gr wi_347_102 wf_347_23 tf_167_6 ?_
        refine rs_aldn wi_347_105 l0 ?_
        refine rs_pure wi_347_106 rfl ?_
        refine dq_gi wi_347_107 wf_347_45 tf_167_7 ?_
        refine rs_pure wi_347_110 rfl ?_
        refine rs_pure wi_347_111 rfl ?_
        refine rs_topi (v := 1) (by decide) ?_
        refine rs_pure wi_347_112 rfl ?_
        obtain ⟨c25, e26, h⟩ := wp_lt h
        refine dq_pi wi_347_113 wp_347_45 tf_167_7 rfl rfl e26 ?_
        refine rs_ildn wi_347_116 l1 ?_
        obtain ⟨g27, h⟩ := wp_gd h
        obtain ⟨c28, e29, h⟩ := wp_lt h
        refine dq_iast wi_347_117 t_171 g27 e29 ?_
        refine rs_pure wi_347_118 rfl ?_
        refine rs_topi (v := 0) (by decide) ?_
        exact rs_iret wi_347_119 wr_347 rfl (hQ (0, c28) h)
      ·
        intro x30 h lv l7
        have h := wp_inr h
        refine rs_ild wi_347_79 l7 ?_
        exact rs_iret wi_347_81 wr_347 rfl (hQ (x30.1, x30.2) h)
theorem wsb_43 : (rt_sb 43).isSome = true := by decide +kernel
theorem wa_13_344 : rz_cn 13 (rx_yn (rt_P sc fm) 344).cls = true := (by decide +kernel : rz_cn 13 (rt_yn 344).cls = true)
theorem wc_343_48 : rx_ct (rt_P sc fm) 343 48 = some (0, 53, 0) := (by decide +kernel : rt_ct 343 48 = some (0, 53, 0))
theorem wc_343_51 : rx_ct (rt_P sc fm) 343 51 = some (0, 344, 0) := (by decide +kernel : rt_ct 343 51 = some (0, 344, 0))
theorem wc_343_56 : rx_ct (rt_P sc fm) 343 56 = some (11, 351, 1) := (by decide +kernel : rt_ct 343 56 = some (11, 351, 1))
theorem wc_343_60 : rx_ct (rt_P sc fm) 343 60 = some (0, 248, 1) := (by decide +kernel : rt_ct 343 60 = some (0, 248, 1))
theorem wc_343_69 : rx_ct (rt_P sc fm) 343 69 = some (0, 347, 3) := (by decide +kernel : rt_ct 343 69 = some (0, 347, 3))
theorem wf_343_19 : rx_ft (rt_P sc fm) 343 19 = some (13, 5) := (by decide +kernel : rt_ft 343 19 = some (13, 5))
theorem wf_343_33 : rx_ft (rt_P sc fm) 343 33 = some (13, 0) := (by decide +kernel : rt_ft 343 33 = some (13, 0))
theorem wf_343_66 : rx_ft (rt_P sc fm) 343 66 = some (9, 10) := (by decide +kernel : rt_ft 343 66 = some (9, 10))
theorem wf_343_9 : rx_ft (rt_P sc fm) 343 9 = some (13, 3) := (by decide +kernel : rt_ft 343 9 = some (13, 3))
theorem wi_343_0 : ri (rt_P sc fm) 343 0 (.aload_n 0) (1) := ri_of (by decide +kernel) rfl
theorem wi_343_1 : ri (rt_P sc fm) 343 1 (.invokevirtual 48) (4) := ri_of (by decide +kernel) rfl
theorem wi_343_12 : ri (rt_P sc fm) 343 12 (.ldc 54) (14) := ri_of (by decide +kernel) rfl
theorem wi_343_14 : ri (rt_P sc fm) 343 14 (.invokestatic 56) (17) := ri_of (by decide +kernel) rfl
theorem wi_343_17 : ri (rt_P sc fm) 343 17 (.invokevirtual 60) (20) := ri_of (by decide +kernel) rfl
theorem wi_343_20 : ri (rt_P sc fm) 343 20 (.istore_n 1) (21) := ri_of (by decide +kernel) rfl
theorem wi_343_21 : ri (rt_P sc fm) 343 21 (.iconst 0) (22) := ri_of (by decide +kernel) rfl
theorem wi_343_22 : ri (rt_P sc fm) 343 22 (.istore_n 2) (23) := ri_of (by decide +kernel) rfl
theorem wi_343_23 : ri (rt_P sc fm) 343 23 (.iconst 0) (24) := ri_of (by decide +kernel) rfl
theorem wi_343_24 : ri (rt_P sc fm) 343 24 (.istore_n 3) (25) := ri_of (by decide +kernel) rfl
theorem wi_343_25 : ri (rt_P sc fm) 343 25 (.iload_n 3) (26) := ri_of (by decide +kernel) rfl
theorem wi_343_26 : ri (rt_P sc fm) 343 26 (.aload_n 0) (27) := ri_of (by decide +kernel) rfl
theorem wi_343_27 : ri (rt_P sc fm) 343 27 (.getfield 33) (30) := ri_of (by decide +kernel) rfl
theorem wi_343_30 : ri (rt_P sc fm) 343 30 (.getfield 66) (33) := ri_of (by decide +kernel) rfl
theorem wi_343_33 : ri (rt_P sc fm) 343 33 (.if_icmp .ge 39) (36) := ri_of (by decide +kernel) rfl
theorem wi_343_36 : ri (rt_P sc fm) 343 36 (.iload_n 2) (37) := ri_of (by decide +kernel) rfl
theorem wi_343_37 : ri (rt_P sc fm) 343 37 (.ifCond .ne 35) (40) := ri_of (by decide +kernel) rfl
theorem wi_343_4 : ri (rt_P sc fm) 343 4 (.aload_n 0) (5) := ri_of (by decide +kernel) rfl
theorem wi_343_40 : ri (rt_P sc fm) 343 40 (.aload_n 0) (41) := ri_of (by decide +kernel) rfl
theorem wi_343_41 : ri (rt_P sc fm) 343 41 (.getfield 9) (44) := ri_of (by decide +kernel) rfl
theorem wi_343_44 : ri (rt_P sc fm) 343 44 (.iload_n 3) (45) := ri_of (by decide +kernel) rfl
theorem wi_343_45 : ri (rt_P sc fm) 343 45 (.baload) (46) := ri_of (by decide +kernel) rfl
theorem wi_343_46 : ri (rt_P sc fm) 343 46 (.ifCond .eq 20) (49) := ri_of (by decide +kernel) rfl
theorem wi_343_49 : ri (rt_P sc fm) 343 49 (.aload_n 0) (50) := ri_of (by decide +kernel) rfl
theorem wi_343_5 : ri (rt_P sc fm) 343 5 (.invokevirtual 51) (8) := ri_of (by decide +kernel) rfl
theorem wi_343_50 : ri (rt_P sc fm) 343 50 (.getfield 19) (53) := ri_of (by decide +kernel) rfl
theorem wi_343_53 : ri (rt_P sc fm) 343 53 (.iload_n 3) (54) := ri_of (by decide +kernel) rfl
theorem wi_343_54 : ri (rt_P sc fm) 343 54 (.iaload) (55) := ri_of (by decide +kernel) rfl
theorem wi_343_55 : ri (rt_P sc fm) 343 55 (.ifCond .ne 11) (58) := ri_of (by decide +kernel) rfl
theorem wi_343_58 : ri (rt_P sc fm) 343 58 (.aload_n 0) (59) := ri_of (by decide +kernel) rfl
theorem wi_343_59 : ri (rt_P sc fm) 343 59 (.iload_n 3) (60) := ri_of (by decide +kernel) rfl
theorem wi_343_60 : ri (rt_P sc fm) 343 60 (.iload_n 1) (61) := ri_of (by decide +kernel) rfl
theorem wi_343_61 : ri (rt_P sc fm) 343 61 (.iconst 0) (62) := ri_of (by decide +kernel) rfl
theorem wi_343_62 : ri (rt_P sc fm) 343 62 (.invokevirtual 69) (65) := ri_of (by decide +kernel) rfl
theorem wi_343_65 : ri (rt_P sc fm) 343 65 (.istore_n 2) (66) := ri_of (by decide +kernel) rfl
theorem wi_343_66 : ri (rt_P sc fm) 343 66 (.iinc 3 1) (69) := ri_of (by decide +kernel) rfl
theorem wi_343_69 : ri (rt_P sc fm) 343 69 (.goto (-44)) (72) := ri_of (by decide +kernel) rfl
theorem wi_343_72 : ri (rt_P sc fm) 343 72 (.iload_n 2) (73) := ri_of (by decide +kernel) rfl
theorem wi_343_73 : ri (rt_P sc fm) 343 73 (.ireturn) (74) := ri_of (by decide +kernel) rfl
theorem wi_343_8 : ri (rt_P sc fm) 343 8 (.aload_n 0) (9) := ri_of (by decide +kernel) rfl
theorem wi_343_9 : ri (rt_P sc fm) 343 9 (.getfield 33) (12) := ri_of (by decide +kernel) rfl
theorem wk_343_54 : rx_kt (rt_P sc fm) 343 54 = some (.ref (rx_K 43)) := (by decide +kernel : rt_kt 343 54 = some (.ref (rx_K 43)))
theorem wm_344 : rx_ml (rt_P sc fm) 344 = 3 := (by decide +kernel : rt_ml 344 = 3)
theorem wr_343 : rx_rt (rt_P sc fm) 343 = (some FieldType.int) := (by decide +kernel : rt_rt 343 = (some FieldType.int))
/-- MarkHouse$Wiring.makeAll()I -/
def d_343 (n : Nat)  (c : cS) : Option (Int32 × cS) :=
  Option.bind (d_53 n c) (fun r1 =>
  Option.bind (d_344 n r1) (fun r2 =>
  Option.bind (d_351 n 43) (fun v3 =>
  Option.bind (d_248 n v3 r2) (fun v4 =>
  Option.bind (whl (R := (Int32 × cS)) (fun s8 : Int32 × Int32 × cS =>
    if (s8.2.2.1 7 10) ≤ s8.2.1 then
      some (.inr (s8.1, s8.2.2))
    else
      if s8.1 = 0 then
        if ib s8.2.1 12 then
        jn (fun p10 : Int32 × cS =>
          lt (s8.2.1 + 1 : Int32) (fun v12 =>
          some (.inl (p10.1, v12, p10.2))))
        (fun j66 =>
        if (s8.2.2.1 168 (ix s8.2.1)) = 0 then
          j66 (s8.1, s8.2.2)
        else
          if ib s8.2.1 12 then
          if (s8.2.2.1 170 (ix s8.2.1)) = 0 then
            Option.bind (d_347 30 n s8.2.1 v4 0 s8.2.2) (fun r15 =>
            j66 (r15.1, r15.2))
          else
            j66 (s8.1, s8.2.2)
          else none)
        else none
      else
        some (.inr (s8.1, s8.2.2))) n (0, 0, r2))
  (fun x17 : Int32 × cS =>
    some (x17.1, x17.2))))))
set_option maxRecDepth 100000 in
set_option maxHeartbeats 4000000 in
theorem sp_343 {F Lo n : Nat}  {c y : cS} {w : cW} {K : Int32 × cS → Prop} {Q : ((Option Value) ⊕ String) → List va_E → Prop} (hw : rOK fm w) (hF : 67 ≤ F) (hLo : 1937 ≤ Lo)  (h : wp (d_343 n  c) K) (hQ : ∀ r, K r → Q (.inl (some (.int r.1))) (hq true r.2 y w)) : rs (rt_P sc fm) 343 F Lo 0 [(0, .ref 167)] [] (hq true c y w) Q := by
  unfold d_343 at h
  obtain ⟨lv, elv⟩ : ∃ lv : rx_L, lv = [(0, .ref 167)] := ⟨_, rfl⟩
  rw [← elv]
  have l0 : rx_ld lv 0 = some (.ref 167) := by rw [elv]; rfl
  refine rs_aldn wi_343_0 l0 ?_
  refine rs_V wi_343_1 wc_343_48 rfl (dq_isa tf_167_0 wa_13_53) (Nat.le_trans (by decide) hF) (ml_le wm_53 (Nat.le_trans (by decide) hLo)) rfl (sp_53 hw (Nat.le_trans (by decide : 0 ≤ 67 - 1) (Nat.sub_le_sub_right hF 1)) (ml_sub wm_53 (Nat.le_trans (by decide : 0 ≤ 1937 - 20) (Nat.sub_le_sub_right hLo 20))) (wp_bind h) (fun r1 h => rs_back0 ?_))
  refine rs_aldn wi_343_4 l0 ?_
  refine rs_V wi_343_5 wc_343_51 rfl (dq_isa tf_167_0 wa_13_344) (Nat.le_trans (by decide) hF) (ml_le wm_344 (Nat.le_trans (by decide) hLo)) rfl (sp_344 hw (Nat.le_trans (by decide : 5 ≤ 67 - 1) (Nat.sub_le_sub_right hF 1)) (ml_sub wm_344 (Nat.le_trans (by decide : 108 ≤ 1937 - 22) (Nat.sub_le_sub_right hLo 22))) (wp_bind h) (fun r2 h => rs_back0 ?_))
  refine rs_aldn wi_343_8 l0 ?_
  refine dq_gr wi_343_9 wf_343_33 tf_167_0 ?_
  refine rs_ldcS wi_343_12 wk_343_54 ?_
  refine rs_SN wi_343_14 wc_343_56 rfl (Nat.le_trans (by decide) hF) (ml_le wm_351 (Nat.le_trans (by decide) hLo)) rfl (sp_351 hq_len hw.2.2.2 (Nat.le_trans (by decide : 4 ≤ 67 - 1) (Nat.sub_le_sub_right hF 1)) (ml_sub wm_351 (Nat.le_trans (by decide : 85 ≤ 1937 - 23) (Nat.sub_le_sub_right hLo 23))) wsb_43 (wp_bind h) (fun v3 h => rs_back1 ?_))
  refine rs_V wi_343_17 wc_343_60 rfl (dq_isa tf_7_0 wa_9_248) (Nat.le_trans (by decide) hF) (ml_le wm_248 (Nat.le_trans (by decide) hLo)) rfl (sp_248 hw (Nat.le_trans (by decide : 0 ≤ 67 - 1) (Nat.sub_le_sub_right hF 1)) (ml_sub wm_248 (Nat.le_trans (by decide : 0 ≤ 1937 - 23) (Nat.sub_le_sub_right hLo 23))) (wp_bind h) (fun v4 h => rs_back1 ?_))
  refine dl_istn wi_343_20 rfl (fun lv l1 t5 => ?_)
  have l0 := t5 _ _ (by decide) (Or.inl rfl) l0
  refine rs_pure wi_343_21 rfl ?_
  refine rs_topi (v := 0) (by decide) ?_
  refine dl_istn wi_343_22 rfl (fun lv l2 t6 => ?_)
  have l0 := t6 _ _ (by decide) (Or.inl rfl) l0
  have l1 := t6 _ _ (by decide) (Or.inl rfl) l1
  refine rs_pure wi_343_23 rfl ?_
  refine rs_topi (v := 0) (by decide) ?_
  refine dl_istn wi_343_24 rfl (fun lv l3 t7 => ?_)
  have l0 := t7 _ _ (by decide) (Or.inl rfl) l0
  have l1 := t7 _ _ (by decide) (Or.inl rfl) l1
  have l2 := t7 _ _ (by decide) (Or.inl rfl) l2
  refine whl_ex (A := fun s8 : Int32 × Int32 × cS => ∀ lv, rx_ld lv 0 = some (.ref 167) → rx_ld lv 1 = some (.int v4) → rx_ld lv 2 = some (.int s8.1) → rx_ld lv 3 = some (.int s8.2.1) → rs (rt_P sc fm) 343 F Lo 25 lv [] (hq true s8.2.2 y w) Q) (B := (fun x17 : Int32 × cS => ∀ lv, rx_ld lv 2 = some (.int x17.1) → rs (rt_P sc fm) 343 F Lo 72 lv [] (hq true x17.2 y w) Q)) ?_ ?_ _ _ (wp_bind h) _ l0 l1 l2 l3
  · intro s8 h lv l0 l1 l2 l3
    refine rs_ildn wi_343_25 l3 ?_
    refine rs_aldn wi_343_26 l0 ?_
    refine dq_gr wi_343_27 wf_343_33 tf_167_0 ?_
    refine dq_gi wi_343_30 wf_343_66 tf_7_10 ?_
    refine rs_icge (tg := 72) wi_343_33 ⟨by decide, by decide⟩ (fun q => ?_) (fun q => ?_)
    ·
      have h := wp_pos h q
      exact h _ l2
    ·
      have h := wp_neg h q
      refine rs_ildn wi_343_36 l2 ?_
      refine rs_ifne (tg := 72) wi_343_37 ⟨by decide, by decide⟩ (fun q => ?_) (fun q => ?_)
      ·
        have h := wp_neg h q
        exact h _ l2
      ·
        have h := wp_pos h q
        refine rs_aldn wi_343_40 l0 ?_
        refine dq_gr wi_343_41 wf_343_9 tf_167_3 ?_
        refine rs_ildn wi_343_44 l3 ?_
        obtain ⟨g9, h⟩ := wp_gd h
        refine dq_zald wi_343_45 t_168 g9 ?_
        refine wp_jn (B := fun p10 : Int32 × cS => ∀ lv, rx_ld lv 0 = some (.ref 167) → rx_ld lv 1 = some (.int v4) → rx_ld lv 2 = some (.int p10.1) → rx_ld lv 3 = some (.int s8.2.1) → rs (rt_P sc fm) 343 F Lo 66 lv [] (hq true p10.2 y w) Q) h (fun p10 h lv l0 l1 l2 l3 => ?_) (fun j66 hj66 h => ?_)
        ·
          obtain ⟨v12, e13, h⟩ := wp_lt h
          refine dl_inc wi_343_66 l3 rfl e13 (fun lv l3 t11 => ?_)
          have l0 := t11 _ _ (by decide) (Or.inl rfl) l0
          have l1 := t11 _ _ (by decide) (Or.inl rfl) l1
          have l2 := t11 _ _ (by decide) (Or.inl rfl) l2
          refine rs_goto (tg := 25) wi_343_69 ⟨by decide, by decide⟩ ?_
          exact h _ l0 l1 l2 l3
        refine rs_ifeq (tg := 66) wi_343_46 ⟨by decide, by decide⟩ (fun q => ?_) (fun q => ?_)
        ·
          have h := wp_pos h q
          exact hj66 _ h _ l0 l1 l2 l3
        ·
          have h := wp_neg h q
          refine rs_aldn wi_343_49 l0 ?_
          refine dq_gr wi_343_50 wf_343_19 tf_167_5 ?_
          refine rs_ildn wi_343_53 l3 ?_
          obtain ⟨g14, h⟩ := wp_gd h
          refine dq_iald wi_343_54 t_170 g14 ?_
          refine rs_ifne (tg := 66) wi_343_55 ⟨by decide, by decide⟩ (fun q => ?_) (fun q => ?_)
          ·
            have h := wp_neg h q
            exact hj66 _ h _ l0 l1 l2 l3
          ·
            have h := wp_pos h q
            refine rs_aldn wi_343_58 l0 ?_
            refine rs_ildn wi_343_59 l3 ?_
            refine rs_ildn wi_343_60 l1 ?_
            refine rs_pure wi_343_61 rfl ?_
            refine rs_topi (v := 0) (by decide) ?_
            refine rs_V wi_343_62 wc_343_69 rfl (dq_isa tf_167_0 wa_13_347) (Nat.le_trans (by decide) hF) (ml_le wm_347 (Nat.le_trans (by decide) hLo)) rfl (sp_347 hw 30 (Nat.le_trans (by decide : 6 + 2 * 30 ≤ 67 - 1) (Nat.sub_le_sub_right hF 1)) (ml_sub wm_347 (Nat.le_trans (by decide : 140 + 59 * 30 ≤ 1937 - 27) (Nat.sub_le_sub_right hLo 27))) (wp_bind h) (fun r15 h => rs_back1 ?_))
            refine dl_istn wi_343_65 rfl (fun lv l2 t16 => ?_)
            have l0 := t16 _ _ (by decide) (Or.inl rfl) l0
            have l1 := t16 _ _ (by decide) (Or.inl rfl) l1
            have l3 := t16 _ _ (by decide) (Or.inl rfl) l3
            exact hj66 _ h _ l0 l1 l2 l3
  ·
    intro x17 h lv l2
    refine rs_ildn wi_343_72 l2 ?_
    exact rs_iret wi_343_73 wr_343 rfl (hQ (x17.1, x17.2) h)
theorem wa_13_343 : rz_cn 13 (rx_yn (rt_P sc fm) 343).cls = true := (by decide +kernel : rz_cn 13 (rt_yn 343).cls = true)
theorem wc_88_374 : rx_ct (rt_P sc fm) 88 374 = some (0, 343, 0) := (by decide +kernel : rt_ct 88 374 = some (0, 343, 0))
theorem wf_88_126 : rx_ft (rt_P sc fm) 88 126 = some (9, 0) := (by decide +kernel : rt_ft 88 126 = some (9, 0))
theorem wf_88_19 : rx_ft (rt_P sc fm) 88 19 = some (14, 1) := (by decide +kernel : rt_ft 88 19 = some (14, 1))
theorem wf_88_78 : rx_ft (rt_P sc fm) 88 78 = some (14, 8) := (by decide +kernel : rt_ft 88 78 = some (14, 8))
theorem wi_88_0 : ri (rt_P sc fm) 88 0 (.aload_n 0) (1) := ri_of (by decide +kernel) rfl
theorem wi_88_1 : ri (rt_P sc fm) 88 1 (.getfield 19) (4) := ri_of (by decide +kernel) rfl
theorem wi_88_10 : ri (rt_P sc fm) 88 10 (.aload_n 0) (11) := ri_of (by decide +kernel) rfl
theorem wi_88_11 : ri (rt_P sc fm) 88 11 (.getfield 78) (14) := ri_of (by decide +kernel) rfl
theorem wi_88_14 : ri (rt_P sc fm) 88 14 (.invokevirtual 374) (17) := ri_of (by decide +kernel) rfl
theorem wi_88_17 : ri (rt_P sc fm) 88 17 (.goto 4) (20) := ri_of (by decide +kernel) rfl
theorem wi_88_20 : ri (rt_P sc fm) 88 20 (.iconst (-1)) (21) := ri_of (by decide +kernel) rfl
theorem wi_88_21 : ri (rt_P sc fm) 88 21 (.ireturn) (22) := ri_of (by decide +kernel) rfl
theorem wi_88_4 : ri (rt_P sc fm) 88 4 (.getfield 126) (7) := ri_of (by decide +kernel) rfl
theorem wi_88_7 : ri (rt_P sc fm) 88 7 (.ifCond .eq 13) (10) := ri_of (by decide +kernel) rfl
theorem wm_343 : rx_ml (rt_P sc fm) 343 = 4 := (by decide +kernel : rt_ml 343 = 4)
theorem wr_88 : rx_rt (rt_P sc fm) 88 = (some FieldType.int) := (by decide +kernel : rt_rt 88 = (some FieldType.int))
/-- MarkHouse.wire()I -/
def d_88 (n : Nat)  (c : cS) : Option (Int32 × cS) :=
  jn (fun p1 : Int32 × cS =>
    some (p1.1, p1.2))
  (fun j21 =>
  if (c.1 7 0) = 0 then
    j21 ((-1), c)
  else
    Option.bind (d_343 n c) (fun r2 =>
    j21 (r2.1, r2.2)))
set_option maxRecDepth 100000 in
set_option maxHeartbeats 4000000 in
theorem sp_88 {F Lo n : Nat}  {c y : cS} {w : cW} {K : Int32 × cS → Prop} {Q : ((Option Value) ⊕ String) → List va_E → Prop} (hw : rOK fm w) (hF : 68 ≤ F) (hLo : 1960 ≤ Lo)  (h : wp (d_88 n  c) K) (hQ : ∀ r, K r → Q (.inl (some (.int r.1))) (hq true r.2 y w)) : rs (rt_P sc fm) 88 F Lo 0 [(0, .ref 0)] [] (hq true c y w) Q := by
  unfold d_88 at h
  obtain ⟨lv, elv⟩ : ∃ lv : rx_L, lv = [(0, .ref 0)] := ⟨_, rfl⟩
  rw [← elv]
  have l0 : rx_ld lv 0 = some (.ref 0) := by rw [elv]; rfl
  refine rs_aldn wi_88_0 l0 ?_
  refine dq_gr wi_88_1 wf_88_19 tf_0_1 ?_
  refine dq_gi wi_88_4 wf_88_126 tf_7_0 ?_
  refine wp_jn (B := fun p1 : Int32 × cS => ∀ lv, rs (rt_P sc fm) 88 F Lo 21 lv [.int p1.1] (hq true p1.2 y w) Q) h (fun p1 h lv => ?_) (fun j21 hj21 h => ?_)
  ·
    exact rs_iret wi_88_21 wr_88 rfl (hQ (p1.1, p1.2) h)
  refine rs_ifeq (tg := 20) wi_88_7 ⟨by decide, by decide⟩ (fun q => ?_) (fun q => ?_)
  ·
    have h := wp_pos h q
    refine rs_pure wi_88_20 rfl ?_
    refine rs_topi (v := (-1)) (by decide) ?_
    exact hj21 _ h _
  ·
    have h := wp_neg h q
    refine rs_aldn wi_88_10 l0 ?_
    refine dq_gr wi_88_11 wf_88_78 tf_0_8 ?_
    refine rs_V wi_88_14 wc_88_374 rfl (dq_isa tf_167_0 wa_13_343) (Nat.le_trans (by decide) hF) (ml_le wm_343 (Nat.le_trans (by decide) hLo)) rfl (sp_343 hw (Nat.le_trans (by decide : 67 ≤ 68 - 1) (Nat.sub_le_sub_right hF 1)) (ml_sub wm_343 (Nat.le_trans (by decide : 1937 ≤ 1960 - 23) (Nat.sub_le_sub_right hLo 23))) (wp_bind h) (fun r2 h => rs_back1 ?_))
    refine rs_goto (tg := 21) wi_88_17 ⟨by decide, by decide⟩ ?_
    exact hj21 _ h _
theorem wa_13_54 : rz_cn 13 (rx_yn (rt_P sc fm) 54).cls = true := (by decide +kernel : rz_cn 13 (rt_yn 54).cls = true)
theorem wc_89_377 : rx_ct (rt_P sc fm) 89 377 = some (0, 54, 1) := (by decide +kernel : rt_ct 89 377 = some (0, 54, 1))
theorem wf_89_78 : rx_ft (rt_P sc fm) 89 78 = some (14, 8) := (by decide +kernel : rt_ft 89 78 = some (14, 8))
theorem wi_89_0 : ri (rt_P sc fm) 89 0 (.aload_n 0) (1) := ri_of (by decide +kernel) rfl
theorem wi_89_1 : ri (rt_P sc fm) 89 1 (.getfield 78) (4) := ri_of (by decide +kernel) rfl
theorem wi_89_4 : ri (rt_P sc fm) 89 4 (.iload_n 1) (5) := ri_of (by decide +kernel) rfl
theorem wi_89_5 : ri (rt_P sc fm) 89 5 (.invokevirtual 377) (8) := ri_of (by decide +kernel) rfl
theorem wi_89_8 : ri (rt_P sc fm) 89 8 (.ireturn) (9) := ri_of (by decide +kernel) rfl
theorem wm_54 : rx_ml (rt_P sc fm) 54 = 2 := (by decide +kernel : rt_ml 54 = 2)
theorem wr_89 : rx_rt (rt_P sc fm) 89 = (some FieldType.int) := (by decide +kernel : rt_rt 89 = (some FieldType.int))
/-- MarkHouse.wired(I)I -/
def d_89 (n : Nat) (a1 : Int32) (c : cS) : Option (Int32) :=
  Option.bind (d_54 n a1 c) (fun v1 =>
  some v1)
set_option maxRecDepth 100000 in
set_option maxHeartbeats 4000000 in
theorem sp_89 {F Lo n : Nat} {a1 : Int32} {c y : cS} {w : cW} {K : Int32 → Prop} {Q : ((Option Value) ⊕ String) → List va_E → Prop} (hw : rOK fm w) (hF : 1 ≤ F) (hLo : 21 ≤ Lo)  (h : wp (d_89 n a1 c) K) (hQ : ∀ r, K r → Q (.inl (some (.int r))) (hq true c y w)) : rs (rt_P sc fm) 89 F Lo 0 [(0, .ref 0), (1, .int a1)] [] (hq true c y w) Q := by
  unfold d_89 at h
  obtain ⟨lv, elv⟩ : ∃ lv : rx_L, lv = [(0, .ref 0), (1, .int a1)] := ⟨_, rfl⟩
  rw [← elv]
  have l0 : rx_ld lv 0 = some (.ref 0) := by rw [elv]; rfl
  have l1 : rx_ld lv 1 = some (.int a1) := by rw [elv]; rfl
  refine rs_aldn wi_89_0 l0 ?_
  refine dq_gr wi_89_1 wf_89_78 tf_0_8 ?_
  refine rs_ildn wi_89_4 l1 ?_
  refine rs_V wi_89_5 wc_89_377 rfl (dq_isa tf_167_0 wa_13_54) (Nat.le_trans (by decide) hF) (ml_le wm_54 (Nat.le_trans (by decide) hLo)) rfl (sp_54 hw (Nat.le_trans (by decide : 0 ≤ 1 - 1) (Nat.sub_le_sub_right hF 1)) (ml_sub wm_54 (Nat.le_trans (by decide : 0 ≤ 21 - 21) (Nat.sub_le_sub_right hLo 21))) (wp_bind h) (fun v1 h => rs_back1 ?_))
  exact rs_iret wi_89_8 wr_89 rfl (hQ v1 h)
theorem tf_174_0 : fo false 174 15 0 (.int 0) := ⟨_, rfl, rfl, by decide, by decide⟩
theorem wf_92_356 : rx_ft (rt_P sc fm) 92 356 = some (15, 0) := (by decide +kernel : rt_ft 92 356 = some (15, 0))
theorem wi_92_0 : ri (rt_P sc fm) 92 0 (.aload_n 0) (1) := ri_of (by decide +kernel) rfl
theorem wi_92_1 : ri (rt_P sc fm) 92 1 (.getfield 356) (4) := ri_of (by decide +kernel) rfl
theorem wi_92_4 : ri (rt_P sc fm) 92 4 (.ireturn) (5) := ri_of (by decide +kernel) rfl
theorem wr_92 : rx_rt (rt_P sc fm) 92 = (some FieldType.int) := (by decide +kernel : rt_rt 92 = (some FieldType.int))
/-- MarkHouseModel.thrown()I -/
def d_92 (n : Nat)  (c : cS) : Option (Int32) :=
  some (c.1 174 0)
set_option maxRecDepth 100000 in
set_option maxHeartbeats 4000000 in
theorem sp_92 {F Lo n : Nat}  {c y : cS} {w : cW} {K : Int32 → Prop} {Q : ((Option Value) ⊕ String) → List va_E → Prop} (hw : rOK fm w) (hF : 0 ≤ F) (hLo : 0 ≤ Lo)  (h : wp (d_92 n  c) K) (hQ : ∀ r, K r → Q (.inl (some (.int r))) (hq false c y w)) : rs (rt_P sc fm) 92 F Lo 0 [(0, .ref 174)] [] (hq false c y w) Q := by
  unfold d_92 at h
  obtain ⟨lv, elv⟩ : ∃ lv : rx_L, lv = [(0, .ref 174)] := ⟨_, rfl⟩
  rw [← elv]
  have l0 : rx_ld lv 0 = some (.ref 174) := by rw [elv]; rfl
  refine rs_aldn wi_92_0 l0 ?_
  refine dq_gi wi_92_1 wf_92_356 tf_174_0 ?_
  exact rs_iret wi_92_4 wr_92 rfl (hQ (c.1 174 0) h)
theorem t_175 : ta false 175 0 4000 := ⟨rfl, by decide, by decide⟩
theorem tf_174_1 : fo false 174 15 1 (.ref 175) := ⟨_, rfl, rfl, by decide, by decide⟩
theorem tf_174_2 : fo false 174 15 2 (.int 0) := ⟨_, rfl, rfl, by decide, by decide⟩
theorem wf_94_359 : rx_ft (rt_P sc fm) 94 359 = some (15, 2) := (by decide +kernel : rt_ft 94 359 = some (15, 2))
theorem wf_94_9 : rx_ft (rt_P sc fm) 94 9 = some (15, 1) := (by decide +kernel : rt_ft 94 9 = some (15, 1))
theorem wi_94_0 : ri (rt_P sc fm) 94 0 (.bipush 24) (2) := ri_of (by decide +kernel) rfl
theorem wi_94_11 : ri (rt_P sc fm) 94 11 (.aload_n 0) (12) := ri_of (by decide +kernel) rfl
theorem wi_94_12 : ri (rt_P sc fm) 94 12 (.getfield 359) (15) := ri_of (by decide +kernel) rfl
theorem wi_94_15 : ri (rt_P sc fm) 94 15 (.iload_n 1) (16) := ri_of (by decide +kernel) rfl
theorem wi_94_16 : ri (rt_P sc fm) 94 16 (.iload_n 2) (17) := ri_of (by decide +kernel) rfl
theorem wi_94_17 : ri (rt_P sc fm) 94 17 (.ishr) (18) := ri_of (by decide +kernel) rfl
theorem wi_94_18 : ri (rt_P sc fm) 94 18 (.sipush 255) (21) := ri_of (by decide +kernel) rfl
theorem wi_94_2 : ri (rt_P sc fm) 94 2 (.istore_n 2) (3) := ri_of (by decide +kernel) rfl
theorem wi_94_21 : ri (rt_P sc fm) 94 21 (.iand) (22) := ri_of (by decide +kernel) rfl
theorem wi_94_22 : ri (rt_P sc fm) 94 22 (.iastore) (23) := ri_of (by decide +kernel) rfl
theorem wi_94_23 : ri (rt_P sc fm) 94 23 (.aload_n 0) (24) := ri_of (by decide +kernel) rfl
theorem wi_94_24 : ri (rt_P sc fm) 94 24 (.dup) (25) := ri_of (by decide +kernel) rfl
theorem wi_94_25 : ri (rt_P sc fm) 94 25 (.getfield 359) (28) := ri_of (by decide +kernel) rfl
theorem wi_94_28 : ri (rt_P sc fm) 94 28 (.iconst 1) (29) := ri_of (by decide +kernel) rfl
theorem wi_94_29 : ri (rt_P sc fm) 94 29 (.iadd) (30) := ri_of (by decide +kernel) rfl
theorem wi_94_3 : ri (rt_P sc fm) 94 3 (.iload_n 2) (4) := ri_of (by decide +kernel) rfl
theorem wi_94_30 : ri (rt_P sc fm) 94 30 (.putfield 359) (33) := ri_of (by decide +kernel) rfl
theorem wi_94_33 : ri (rt_P sc fm) 94 33 (.iinc 2 (-8)) (36) := ri_of (by decide +kernel) rfl
theorem wi_94_36 : ri (rt_P sc fm) 94 36 (.goto (-33)) (39) := ri_of (by decide +kernel) rfl
theorem wi_94_39 : ri (rt_P sc fm) 94 39 (.return_) (40) := ri_of (by decide +kernel) rfl
theorem wi_94_4 : ri (rt_P sc fm) 94 4 (.ifCond .lt 35) (7) := ri_of (by decide +kernel) rfl
theorem wi_94_7 : ri (rt_P sc fm) 94 7 (.aload_n 0) (8) := ri_of (by decide +kernel) rfl
theorem wi_94_8 : ri (rt_P sc fm) 94 8 (.getfield 9) (11) := ri_of (by decide +kernel) rfl
theorem wp_94_359 : rx_pt (rt_P sc fm) 94 359 = some (15, 2, .int) := (by decide +kernel : rt_pt 94 359 = some (15, 2, .int))
theorem wr_94 : rx_rt (rt_P sc fm) 94 = none := (by decide +kernel : rt_rt 94 = none)
/-- MarkHouseModel.four(I)V -/
def d_94 (n : Nat) (a1 : Int32) (c : cS) : Option (cS) :=
  Option.bind (whl (R := (cS)) (fun s2 : Int32 × cS =>
    if s2.1 < 0 then
      some (.inr s2.2)
    else
      if ib (s2.2.1 174 2) 4000 then
      lt (pI s2.2 175 (ix (s2.2.1 174 2)) ((a1 >>> (s2.1 &&& 31)) &&& 255)) (fun c4 =>
      lt (pI c4 174 2 ((c4.1 174 2) + 1)) (fun c6 =>
      lt (s2.1 + (-8) : Int32) (fun v9 =>
      some (.inl (v9, c6)))))
      else none) n (24, c))
  (fun x11 : cS =>
    some x11)
set_option maxRecDepth 100000 in
set_option maxHeartbeats 4000000 in
theorem sp_94 {F Lo n : Nat} {a1 : Int32} {c y : cS} {w : cW} {K : cS → Prop} {Q : ((Option Value) ⊕ String) → List va_E → Prop} (hw : rOK fm w) (hF : 0 ≤ F) (hLo : 0 ≤ Lo)  (h : wp (d_94 n a1 c) K) (hQ : ∀ r, K r → Q (.inl none) (hq false r y w)) : rs (rt_P sc fm) 94 F Lo 0 [(0, .ref 174), (1, .int a1)] [] (hq false c y w) Q := by
  unfold d_94 at h
  obtain ⟨lv, elv⟩ : ∃ lv : rx_L, lv = [(0, .ref 174), (1, .int a1)] := ⟨_, rfl⟩
  rw [← elv]
  have l0 : rx_ld lv 0 = some (.ref 174) := by rw [elv]; rfl
  have l1 : rx_ld lv 1 = some (.int a1) := by rw [elv]; rfl
  refine rs_pure wi_94_0 rfl ?_
  refine rs_topi (v := 24) (by decide) ?_
  refine dl_istn wi_94_2 rfl (fun lv l2 t1 => ?_)
  have l0 := t1 _ _ (by decide) (Or.inl rfl) l0
  have l1 := t1 _ _ (by decide) (Or.inl rfl) l1
  refine whl_ex (A := fun s2 : Int32 × cS => ∀ lv, rx_ld lv 0 = some (.ref 174) → rx_ld lv 1 = some (.int a1) → rx_ld lv 2 = some (.int s2.1) → rs (rt_P sc fm) 94 F Lo 3 lv [] (hq false s2.2 y w) Q) (B := (fun x11 : cS => ∀ lv, rs (rt_P sc fm) 94 F Lo 39 lv [] (hq false x11 y w) Q)) ?_ ?_ _ _ (wp_bind h) _ l0 l1 l2
  · intro s2 h lv l0 l1 l2
    refine rs_ildn wi_94_3 l2 ?_
    refine rs_iflt (tg := 39) wi_94_4 ⟨by decide, by decide⟩ (fun q => ?_) (fun q => ?_)
    ·
      have h := wp_pos h q
      exact h _
    ·
      have h := wp_neg h q
      refine rs_aldn wi_94_7 l0 ?_
      refine dq_gr wi_94_8 wf_94_9 tf_174_1 ?_
      refine rs_aldn wi_94_11 l0 ?_
      refine dq_gi wi_94_12 wf_94_359 tf_174_2 ?_
      refine rs_ildn wi_94_15 l1 ?_
      refine rs_ildn wi_94_16 l2 ?_
      refine rs_pure wi_94_17 rfl ?_
      refine rs_pure wi_94_18 rfl ?_
      refine rs_topi (v := 255) (by decide) ?_
      refine rs_pure wi_94_21 rfl ?_
      obtain ⟨g3, h⟩ := wp_gd h
      obtain ⟨c4, e5, h⟩ := wp_lt h
      refine dq_iast wi_94_22 t_175 g3 e5 ?_
      refine rs_aldn wi_94_23 l0 ?_
      refine rs_pure wi_94_24 rfl ?_
      refine dq_gi wi_94_25 wf_94_359 tf_174_2 ?_
      refine rs_pure wi_94_28 rfl ?_
      refine rs_topi (v := 1) (by decide) ?_
      refine rs_pure wi_94_29 rfl ?_
      obtain ⟨c6, e7, h⟩ := wp_lt h
      refine dq_pi wi_94_30 wp_94_359 tf_174_2 rfl rfl e7 ?_
      obtain ⟨v9, e10, h⟩ := wp_lt h
      refine dl_inc wi_94_33 l2 rfl e10 (fun lv l2 t8 => ?_)
      have l0 := t8 _ _ (by decide) (Or.inl rfl) l0
      have l1 := t8 _ _ (by decide) (Or.inl rfl) l1
      refine rs_goto (tg := 3) wi_94_36 ⟨by decide, by decide⟩ ?_
      exact h _ l0 l1 l2
  ·
    intro x11 h lv
    exact rs_vret wi_94_39 wr_94 (hQ x11 h)
theorem wa_15_94 : rz_cn 15 (rx_yn (rt_P sc fm) 94).cls = true := (by decide +kernel : rz_cn 15 (rt_yn 94).cls = true)
theorem wc_93_362 : rx_ct (rt_P sc fm) 93 362 = some (0, 94, 1) := (by decide +kernel : rt_ct 93 362 = some (0, 94, 1))
theorem wf_93_359 : rx_ft (rt_P sc fm) 93 359 = some (15, 2) := (by decide +kernel : rt_ft 93 359 = some (15, 2))
theorem wi_93_0 : ri (rt_P sc fm) 93 0 (.aload_n 0) (1) := ri_of (by decide +kernel) rfl
theorem wi_93_1 : ri (rt_P sc fm) 93 1 (.iconst 0) (2) := ri_of (by decide +kernel) rfl
theorem wi_93_11 : ri (rt_P sc fm) 93 11 (.iadd) (12) := ri_of (by decide +kernel) rfl
theorem wi_93_12 : ri (rt_P sc fm) 93 12 (.sipush 4000) (15) := ri_of (by decide +kernel) rfl
theorem wi_93_15 : ri (rt_P sc fm) 93 15 (.if_icmp .le 5) (18) := ri_of (by decide +kernel) rfl
theorem wi_93_18 : ri (rt_P sc fm) 93 18 (.iconst (-1)) (19) := ri_of (by decide +kernel) rfl
theorem wi_93_19 : ri (rt_P sc fm) 93 19 (.ireturn) (20) := ri_of (by decide +kernel) rfl
theorem wi_93_2 : ri (rt_P sc fm) 93 2 (.putfield 356) (5) := ri_of (by decide +kernel) rfl
theorem wi_93_20 : ri (rt_P sc fm) 93 20 (.aload_n 0) (21) := ri_of (by decide +kernel) rfl
theorem wi_93_21 : ri (rt_P sc fm) 93 21 (.iload_n 1) (22) := ri_of (by decide +kernel) rfl
theorem wi_93_22 : ri (rt_P sc fm) 93 22 (.invokevirtual 362) (25) := ri_of (by decide +kernel) rfl
theorem wi_93_25 : ri (rt_P sc fm) 93 25 (.aload_n 0) (26) := ri_of (by decide +kernel) rfl
theorem wi_93_26 : ri (rt_P sc fm) 93 26 (.iload_n 2) (27) := ri_of (by decide +kernel) rfl
theorem wi_93_27 : ri (rt_P sc fm) 93 27 (.invokevirtual 362) (30) := ri_of (by decide +kernel) rfl
theorem wi_93_30 : ri (rt_P sc fm) 93 30 (.aload_n 0) (31) := ri_of (by decide +kernel) rfl
theorem wi_93_31 : ri (rt_P sc fm) 93 31 (.iload_n 3) (32) := ri_of (by decide +kernel) rfl
theorem wi_93_32 : ri (rt_P sc fm) 93 32 (.invokevirtual 362) (35) := ri_of (by decide +kernel) rfl
theorem wi_93_35 : ri (rt_P sc fm) 93 35 (.aload_n 0) (36) := ri_of (by decide +kernel) rfl
theorem wi_93_36 : ri (rt_P sc fm) 93 36 (.iload 4) (38) := ri_of (by decide +kernel) rfl
theorem wi_93_38 : ri (rt_P sc fm) 93 38 (.invokevirtual 362) (41) := ri_of (by decide +kernel) rfl
theorem wi_93_41 : ri (rt_P sc fm) 93 41 (.aload_n 0) (42) := ri_of (by decide +kernel) rfl
theorem wi_93_42 : ri (rt_P sc fm) 93 42 (.iload 5) (44) := ri_of (by decide +kernel) rfl
theorem wi_93_44 : ri (rt_P sc fm) 93 44 (.invokevirtual 362) (47) := ri_of (by decide +kernel) rfl
theorem wi_93_47 : ri (rt_P sc fm) 93 47 (.aload_n 0) (48) := ri_of (by decide +kernel) rfl
theorem wi_93_48 : ri (rt_P sc fm) 93 48 (.getfield 359) (51) := ri_of (by decide +kernel) rfl
theorem wi_93_5 : ri (rt_P sc fm) 93 5 (.aload_n 0) (6) := ri_of (by decide +kernel) rfl
theorem wi_93_51 : ri (rt_P sc fm) 93 51 (.ireturn) (52) := ri_of (by decide +kernel) rfl
theorem wi_93_6 : ri (rt_P sc fm) 93 6 (.getfield 359) (9) := ri_of (by decide +kernel) rfl
theorem wi_93_9 : ri (rt_P sc fm) 93 9 (.bipush 20) (11) := ri_of (by decide +kernel) rfl
theorem wm_94 : rx_ml (rt_P sc fm) 94 = 3 := (by decide +kernel : rt_ml 94 = 3)
theorem wp_93_356 : rx_pt (rt_P sc fm) 93 356 = some (15, 0, .int) := (by decide +kernel : rt_pt 93 356 = some (15, 0, .int))
theorem wr_93 : rx_rt (rt_P sc fm) 93 = (some FieldType.int) := (by decide +kernel : rt_rt 93 = (some FieldType.int))
/-- MarkHouseModel.feed(IIIII)I -/
def d_93 (n : Nat) (a1 : Int32) (a2 : Int32) (a3 : Int32) (a4 : Int32) (a5 : Int32) (c : cS) : Option (Int32 × cS) :=
  lt (pI c 174 0 0) (fun c1 =>
  if ((c1.1 174 2) + 20) ≤ 4000 then
    Option.bind (d_94 n a1 c1) (fun r3 =>
    Option.bind (d_94 n a2 r3) (fun r4 =>
    Option.bind (d_94 n a3 r4) (fun r5 =>
    Option.bind (d_94 n a4 r5) (fun r6 =>
    Option.bind (d_94 n a5 r6) (fun r7 =>
    some ((r7.1 174 2), r7))))))
  else
    some ((-1), c1))
set_option maxRecDepth 100000 in
set_option maxHeartbeats 4000000 in
theorem sp_93 {F Lo n : Nat} {a1 : Int32} {a2 : Int32} {a3 : Int32} {a4 : Int32} {a5 : Int32} {c y : cS} {w : cW} {K : Int32 × cS → Prop} {Q : ((Option Value) ⊕ String) → List va_E → Prop} (hw : rOK fm w) (hF : 1 ≤ F) (hLo : 22 ≤ Lo)  (h : wp (d_93 n a1 a2 a3 a4 a5 c) K) (hQ : ∀ r, K r → Q (.inl (some (.int r.1))) (hq false r.2 y w)) : rs (rt_P sc fm) 93 F Lo 0 [(0, .ref 174), (1, .int a1), (2, .int a2), (3, .int a3), (4, .int a4), (5, .int a5)] [] (hq false c y w) Q := by
  unfold d_93 at h
  obtain ⟨lv, elv⟩ : ∃ lv : rx_L, lv = [(0, .ref 174), (1, .int a1), (2, .int a2), (3, .int a3), (4, .int a4), (5, .int a5)] := ⟨_, rfl⟩
  rw [← elv]
  have l0 : rx_ld lv 0 = some (.ref 174) := by rw [elv]; rfl
  have l1 : rx_ld lv 1 = some (.int a1) := by rw [elv]; rfl
  have l2 : rx_ld lv 2 = some (.int a2) := by rw [elv]; rfl
  have l3 : rx_ld lv 3 = some (.int a3) := by rw [elv]; rfl
  have l4 : rx_ld lv 4 = some (.int a4) := by rw [elv]; rfl
  have l5 : rx_ld lv 5 = some (.int a5) := by rw [elv]; rfl
  refine rs_aldn wi_93_0 l0 ?_
  refine rs_pure wi_93_1 rfl ?_
  refine rs_topi (v := 0) (by decide) ?_
  obtain ⟨c1, e2, h⟩ := wp_lt h
  refine dq_pi wi_93_2 wp_93_356 tf_174_0 rfl rfl e2 ?_
  refine rs_aldn wi_93_5 l0 ?_
  refine dq_gi wi_93_6 wf_93_359 tf_174_2 ?_
  refine rs_pure wi_93_9 rfl ?_
  refine rs_topi (v := 20) (by decide) ?_
  refine rs_pure wi_93_11 rfl ?_
  refine rs_pure wi_93_12 rfl ?_
  refine rs_topi (v := 4000) (by decide) ?_
  refine rs_icle (tg := 20) wi_93_15 ⟨by decide, by decide⟩ (fun q => ?_) (fun q => ?_)
  ·
    have h := wp_pos h q
    refine rs_aldn wi_93_20 l0 ?_
    refine rs_ildn wi_93_21 l1 ?_
    refine rs_V wi_93_22 wc_93_362 rfl (dq_isa tf_174_0 wa_15_94) (Nat.le_trans (by decide) hF) (ml_le wm_94 (Nat.le_trans (by decide) hLo)) rfl (sp_94 hw (Nat.le_trans (by decide : 0 ≤ 1 - 1) (Nat.sub_le_sub_right hF 1)) (ml_sub wm_94 (Nat.le_trans (by decide : 0 ≤ 22 - 22) (Nat.sub_le_sub_right hLo 22))) (wp_bind h) (fun r3 h => rs_back0 ?_))
    refine rs_aldn wi_93_25 l0 ?_
    refine rs_ildn wi_93_26 l2 ?_
    refine rs_V wi_93_27 wc_93_362 rfl (dq_isa tf_174_0 wa_15_94) (Nat.le_trans (by decide) hF) (ml_le wm_94 (Nat.le_trans (by decide) hLo)) rfl (sp_94 hw (Nat.le_trans (by decide : 0 ≤ 1 - 1) (Nat.sub_le_sub_right hF 1)) (ml_sub wm_94 (Nat.le_trans (by decide : 0 ≤ 22 - 22) (Nat.sub_le_sub_right hLo 22))) (wp_bind h) (fun r4 h => rs_back0 ?_))
    refine rs_aldn wi_93_30 l0 ?_
    refine rs_ildn wi_93_31 l3 ?_
    refine rs_V wi_93_32 wc_93_362 rfl (dq_isa tf_174_0 wa_15_94) (Nat.le_trans (by decide) hF) (ml_le wm_94 (Nat.le_trans (by decide) hLo)) rfl (sp_94 hw (Nat.le_trans (by decide : 0 ≤ 1 - 1) (Nat.sub_le_sub_right hF 1)) (ml_sub wm_94 (Nat.le_trans (by decide : 0 ≤ 22 - 22) (Nat.sub_le_sub_right hLo 22))) (wp_bind h) (fun r5 h => rs_back0 ?_))
    refine rs_aldn wi_93_35 l0 ?_
    refine rs_ild wi_93_36 l4 ?_
    refine rs_V wi_93_38 wc_93_362 rfl (dq_isa tf_174_0 wa_15_94) (Nat.le_trans (by decide) hF) (ml_le wm_94 (Nat.le_trans (by decide) hLo)) rfl (sp_94 hw (Nat.le_trans (by decide : 0 ≤ 1 - 1) (Nat.sub_le_sub_right hF 1)) (ml_sub wm_94 (Nat.le_trans (by decide : 0 ≤ 22 - 22) (Nat.sub_le_sub_right hLo 22))) (wp_bind h) (fun r6 h => rs_back0 ?_))
    refine rs_aldn wi_93_41 l0 ?_
    refine rs_ild wi_93_42 l5 ?_
    refine rs_V wi_93_44 wc_93_362 rfl (dq_isa tf_174_0 wa_15_94) (Nat.le_trans (by decide) hF) (ml_le wm_94 (Nat.le_trans (by decide) hLo)) rfl (sp_94 hw (Nat.le_trans (by decide : 0 ≤ 1 - 1) (Nat.sub_le_sub_right hF 1)) (ml_sub wm_94 (Nat.le_trans (by decide : 0 ≤ 22 - 22) (Nat.sub_le_sub_right hLo 22))) (wp_bind h) (fun r7 h => rs_back0 ?_))
    refine rs_aldn wi_93_47 l0 ?_
    refine dq_gi wi_93_48 wf_93_359 tf_174_2 ?_
    exact rs_iret wi_93_51 wr_93 rfl (hQ ((r7.1 174 2), r7) h)
  ·
    have h := wp_neg h q
    refine rs_pure wi_93_18 rfl ?_
    refine rs_topi (v := (-1)) (by decide) ?_
    exact rs_iret wi_93_19 wr_93 rfl (hQ ((-1), c1) h)
theorem wf_95_359 : rx_ft (rt_P sc fm) 95 359 = some (15, 2) := (by decide +kernel : rt_ft 95 359 = some (15, 2))
theorem wi_95_0 : ri (rt_P sc fm) 95 0 (.aload_n 0) (1) := ri_of (by decide +kernel) rfl
theorem wi_95_1 : ri (rt_P sc fm) 95 1 (.iconst 0) (2) := ri_of (by decide +kernel) rfl
theorem wi_95_10 : ri (rt_P sc fm) 95 10 (.aload_n 0) (11) := ri_of (by decide +kernel) rfl
theorem wi_95_11 : ri (rt_P sc fm) 95 11 (.getfield 359) (14) := ri_of (by decide +kernel) rfl
theorem wi_95_14 : ri (rt_P sc fm) 95 14 (.if_icmp .le 5) (17) := ri_of (by decide +kernel) rfl
theorem wi_95_17 : ri (rt_P sc fm) 95 17 (.iconst (-1)) (18) := ri_of (by decide +kernel) rfl
theorem wi_95_18 : ri (rt_P sc fm) 95 18 (.ireturn) (19) := ri_of (by decide +kernel) rfl
theorem wi_95_19 : ri (rt_P sc fm) 95 19 (.aload_n 0) (20) := ri_of (by decide +kernel) rfl
theorem wi_95_2 : ri (rt_P sc fm) 95 2 (.putfield 356) (5) := ri_of (by decide +kernel) rfl
theorem wi_95_20 : ri (rt_P sc fm) 95 20 (.iload_n 1) (21) := ri_of (by decide +kernel) rfl
theorem wi_95_21 : ri (rt_P sc fm) 95 21 (.putfield 359) (24) := ri_of (by decide +kernel) rfl
theorem wi_95_24 : ri (rt_P sc fm) 95 24 (.iload_n 1) (25) := ri_of (by decide +kernel) rfl
theorem wi_95_25 : ri (rt_P sc fm) 95 25 (.ireturn) (26) := ri_of (by decide +kernel) rfl
theorem wi_95_5 : ri (rt_P sc fm) 95 5 (.iload_n 1) (6) := ri_of (by decide +kernel) rfl
theorem wi_95_6 : ri (rt_P sc fm) 95 6 (.ifCond .lt 11) (9) := ri_of (by decide +kernel) rfl
theorem wi_95_9 : ri (rt_P sc fm) 95 9 (.iload_n 1) (10) := ri_of (by decide +kernel) rfl
theorem wp_95_356 : rx_pt (rt_P sc fm) 95 356 = some (15, 0, .int) := (by decide +kernel : rt_pt 95 356 = some (15, 0, .int))
theorem wp_95_359 : rx_pt (rt_P sc fm) 95 359 = some (15, 2, .int) := (by decide +kernel : rt_pt 95 359 = some (15, 2, .int))
theorem wr_95 : rx_rt (rt_P sc fm) 95 = (some FieldType.int) := (by decide +kernel : rt_rt 95 = (some FieldType.int))
/-- MarkHouseModel.end(I)I -/
def d_95 (n : Nat) (a1 : Int32) (c : cS) : Option (Int32 × cS) :=
  lt (pI c 174 0 0) (fun c1 =>
  jn (fun p3 : Unit =>
    some ((-1), c1))
  (fun j17 =>
  if a1 < 0 then
    j17 ()
  else
    if a1 ≤ (c1.1 174 2) then
      lt (pI c1 174 2 a1) (fun c4 =>
      some (a1, c4))
    else
      j17 ()))
set_option maxRecDepth 100000 in
set_option maxHeartbeats 4000000 in
theorem sp_95 {F Lo n : Nat} {a1 : Int32} {c y : cS} {w : cW} {K : Int32 × cS → Prop} {Q : ((Option Value) ⊕ String) → List va_E → Prop} (hw : rOK fm w) (hF : 0 ≤ F) (hLo : 0 ≤ Lo)  (h : wp (d_95 n a1 c) K) (hQ : ∀ r, K r → Q (.inl (some (.int r.1))) (hq false r.2 y w)) : rs (rt_P sc fm) 95 F Lo 0 [(0, .ref 174), (1, .int a1)] [] (hq false c y w) Q := by
  unfold d_95 at h
  obtain ⟨lv, elv⟩ : ∃ lv : rx_L, lv = [(0, .ref 174), (1, .int a1)] := ⟨_, rfl⟩
  rw [← elv]
  have l0 : rx_ld lv 0 = some (.ref 174) := by rw [elv]; rfl
  have l1 : rx_ld lv 1 = some (.int a1) := by rw [elv]; rfl
  refine rs_aldn wi_95_0 l0 ?_
  refine rs_pure wi_95_1 rfl ?_
  refine rs_topi (v := 0) (by decide) ?_
  obtain ⟨c1, e2, h⟩ := wp_lt h
  refine dq_pi wi_95_2 wp_95_356 tf_174_0 rfl rfl e2 ?_
  refine rs_ildn wi_95_5 l1 ?_
  refine wp_jn (B := fun p3 : Unit => ∀ lv, rs (rt_P sc fm) 95 F Lo 17 lv [] (hq false c1 y w) Q) h (fun p3 h lv => ?_) (fun j17 hj17 h => ?_)
  ·
    refine rs_pure wi_95_17 rfl ?_
    refine rs_topi (v := (-1)) (by decide) ?_
    exact rs_iret wi_95_18 wr_95 rfl (hQ ((-1), c1) h)
  refine rs_iflt (tg := 17) wi_95_6 ⟨by decide, by decide⟩ (fun q => ?_) (fun q => ?_)
  ·
    have h := wp_pos h q
    exact hj17 _ h _
  ·
    have h := wp_neg h q
    refine rs_ildn wi_95_9 l1 ?_
    refine rs_aldn wi_95_10 l0 ?_
    refine dq_gi wi_95_11 wf_95_359 tf_174_2 ?_
    refine rs_icle (tg := 19) wi_95_14 ⟨by decide, by decide⟩ (fun q => ?_) (fun q => ?_)
    ·
      have h := wp_pos h q
      refine rs_aldn wi_95_19 l0 ?_
      refine rs_ildn wi_95_20 l1 ?_
      obtain ⟨c4, e5, h⟩ := wp_lt h
      refine dq_pi wi_95_21 wp_95_359 tf_174_2 rfl rfl e5 ?_
      refine rs_ildn wi_95_24 l1 ?_
      exact rs_iret wi_95_25 wr_95 rfl (hQ (a1, c4) h)
    ·
      have h := wp_neg h q
      exact hj17 _ h _
theorem t_176 : ta false 176 0 8000 := ⟨rfl, by decide, by decide⟩
theorem tf_174_3 : fo false 174 15 3 (.ref 176) := ⟨_, rfl, rfl, by decide, by decide⟩
theorem tf_174_4 : fo false 174 15 4 (.int 0) := ⟨_, rfl, rfl, by decide, by decide⟩
theorem wf_96_13 : rx_ft (rt_P sc fm) 96 13 = some (15, 3) := (by decide +kernel : rt_ft 96 13 = some (15, 3))
theorem wf_96_366 : rx_ft (rt_P sc fm) 96 366 = some (15, 4) := (by decide +kernel : rt_ft 96 366 = some (15, 4))
theorem wi_96_0 : ri (rt_P sc fm) 96 0 (.aload_n 0) (1) := ri_of (by decide +kernel) rfl
theorem wi_96_1 : ri (rt_P sc fm) 96 1 (.iconst 0) (2) := ri_of (by decide +kernel) rfl
theorem wi_96_10 : ri (rt_P sc fm) 96 10 (.aload_n 0) (11) := ri_of (by decide +kernel) rfl
theorem wi_96_11 : ri (rt_P sc fm) 96 11 (.getfield 366) (14) := ri_of (by decide +kernel) rfl
theorem wi_96_14 : ri (rt_P sc fm) 96 14 (.if_icmp .ge 12) (17) := ri_of (by decide +kernel) rfl
theorem wi_96_17 : ri (rt_P sc fm) 96 17 (.aload_n 0) (18) := ri_of (by decide +kernel) rfl
theorem wi_96_18 : ri (rt_P sc fm) 96 18 (.getfield 13) (21) := ri_of (by decide +kernel) rfl
theorem wi_96_2 : ri (rt_P sc fm) 96 2 (.putfield 356) (5) := ri_of (by decide +kernel) rfl
theorem wi_96_21 : ri (rt_P sc fm) 96 21 (.iload_n 1) (22) := ri_of (by decide +kernel) rfl
theorem wi_96_22 : ri (rt_P sc fm) 96 22 (.iaload) (23) := ri_of (by decide +kernel) rfl
theorem wi_96_23 : ri (rt_P sc fm) 96 23 (.goto 4) (26) := ri_of (by decide +kernel) rfl
theorem wi_96_26 : ri (rt_P sc fm) 96 26 (.iconst (-1)) (27) := ri_of (by decide +kernel) rfl
theorem wi_96_27 : ri (rt_P sc fm) 96 27 (.ireturn) (28) := ri_of (by decide +kernel) rfl
theorem wi_96_5 : ri (rt_P sc fm) 96 5 (.iload_n 1) (6) := ri_of (by decide +kernel) rfl
theorem wi_96_6 : ri (rt_P sc fm) 96 6 (.ifCond .lt 20) (9) := ri_of (by decide +kernel) rfl
theorem wi_96_9 : ri (rt_P sc fm) 96 9 (.iload_n 1) (10) := ri_of (by decide +kernel) rfl
theorem wp_96_356 : rx_pt (rt_P sc fm) 96 356 = some (15, 0, .int) := (by decide +kernel : rt_pt 96 356 = some (15, 0, .int))
theorem wr_96 : rx_rt (rt_P sc fm) 96 = (some FieldType.int) := (by decide +kernel : rt_rt 96 = (some FieldType.int))
/-- MarkHouseModel.out(I)I -/
def d_96 (n : Nat) (a1 : Int32) (c : cS) : Option (Int32 × cS) :=
  lt (pI c 174 0 0) (fun c1 =>
  jn (fun p3 : Int32 =>
    some (p3, c1))
  (fun j27 =>
  jn (fun p4 : Unit =>
    j27 (-1))
  (fun j26 =>
  if a1 < 0 then
    j26 ()
  else
    if (c1.1 174 4) ≤ a1 then
      j26 ()
    else
      if ib a1 8000 then
      j27 (c1.1 176 (ix a1))
      else none)))
set_option maxRecDepth 100000 in
set_option maxHeartbeats 4000000 in
theorem sp_96 {F Lo n : Nat} {a1 : Int32} {c y : cS} {w : cW} {K : Int32 × cS → Prop} {Q : ((Option Value) ⊕ String) → List va_E → Prop} (hw : rOK fm w) (hF : 0 ≤ F) (hLo : 0 ≤ Lo)  (h : wp (d_96 n a1 c) K) (hQ : ∀ r, K r → Q (.inl (some (.int r.1))) (hq false r.2 y w)) : rs (rt_P sc fm) 96 F Lo 0 [(0, .ref 174), (1, .int a1)] [] (hq false c y w) Q := by
  unfold d_96 at h
  obtain ⟨lv, elv⟩ : ∃ lv : rx_L, lv = [(0, .ref 174), (1, .int a1)] := ⟨_, rfl⟩
  rw [← elv]
  have l0 : rx_ld lv 0 = some (.ref 174) := by rw [elv]; rfl
  have l1 : rx_ld lv 1 = some (.int a1) := by rw [elv]; rfl
  refine rs_aldn wi_96_0 l0 ?_
  refine rs_pure wi_96_1 rfl ?_
  refine rs_topi (v := 0) (by decide) ?_
  obtain ⟨c1, e2, h⟩ := wp_lt h
  refine dq_pi wi_96_2 wp_96_356 tf_174_0 rfl rfl e2 ?_
  refine rs_ildn wi_96_5 l1 ?_
  refine wp_jn (B := fun p3 : Int32 => ∀ lv, rs (rt_P sc fm) 96 F Lo 27 lv [.int p3] (hq false c1 y w) Q) h (fun p3 h lv => ?_) (fun j27 hj27 h => ?_)
  ·
    exact rs_iret wi_96_27 wr_96 rfl (hQ (p3, c1) h)
  refine wp_jn (B := fun p4 : Unit => ∀ lv, rs (rt_P sc fm) 96 F Lo 26 lv [] (hq false c1 y w) Q) h (fun p4 h lv => ?_) (fun j26 hj26 h => ?_)
  ·
    refine rs_pure wi_96_26 rfl ?_
    refine rs_topi (v := (-1)) (by decide) ?_
    exact hj27 _ h _
  refine rs_iflt (tg := 26) wi_96_6 ⟨by decide, by decide⟩ (fun q => ?_) (fun q => ?_)
  ·
    have h := wp_pos h q
    exact hj26 _ h _
  ·
    have h := wp_neg h q
    refine rs_ildn wi_96_9 l1 ?_
    refine rs_aldn wi_96_10 l0 ?_
    refine dq_gi wi_96_11 wf_96_366 tf_174_4 ?_
    refine rs_icge (tg := 26) wi_96_14 ⟨by decide, by decide⟩ (fun q => ?_) (fun q => ?_)
    ·
      have h := wp_pos h q
      exact hj26 _ h _
    ·
      have h := wp_neg h q
      refine rs_aldn wi_96_17 l0 ?_
      refine dq_gr wi_96_18 wf_96_13 tf_174_3 ?_
      refine rs_ildn wi_96_21 l1 ?_
      obtain ⟨g5, h⟩ := wp_gd h
      refine dq_iald wi_96_22 t_176 g5 ?_
      refine rs_goto (tg := 27) wi_96_23 ⟨by decide, by decide⟩ ?_
      exact hj27 _ h _
theorem tf_174_11 : fo false 174 15 11 (.int 0) := ⟨_, rfl, rfl, by decide, by decide⟩
theorem tf_174_12 : fo false 174 15 12 (.int 0) := ⟨_, rfl, rfl, by decide, by decide⟩
theorem tf_174_13 : fo false 174 15 13 (.int 0) := ⟨_, rfl, rfl, by decide, by decide⟩
theorem wf_97_409 : rx_ft (rt_P sc fm) 97 409 = some (15, 13) := (by decide +kernel : rt_ft 97 409 = some (15, 13))
theorem wi_97_0 : ri (rt_P sc fm) 97 0 (.aload_n 0) (1) := ri_of (by decide +kernel) rfl
theorem wi_97_1 : ri (rt_P sc fm) 97 1 (.getfield 409) (4) := ri_of (by decide +kernel) rfl
theorem wi_97_10 : ri (rt_P sc fm) 97 10 (.putfield 409) (13) := ri_of (by decide +kernel) rfl
theorem wi_97_13 : ri (rt_P sc fm) 97 13 (.aload_n 0) (14) := ri_of (by decide +kernel) rfl
theorem wi_97_14 : ri (rt_P sc fm) 97 14 (.iload_n 1) (15) := ri_of (by decide +kernel) rfl
theorem wi_97_15 : ri (rt_P sc fm) 97 15 (.putfield 412) (18) := ri_of (by decide +kernel) rfl
theorem wi_97_18 : ri (rt_P sc fm) 97 18 (.aload_n 0) (19) := ri_of (by decide +kernel) rfl
theorem wi_97_19 : ri (rt_P sc fm) 97 19 (.iload_n 2) (20) := ri_of (by decide +kernel) rfl
theorem wi_97_20 : ri (rt_P sc fm) 97 20 (.putfield 415) (23) := ri_of (by decide +kernel) rfl
theorem wi_97_23 : ri (rt_P sc fm) 97 23 (.return_) (24) := ri_of (by decide +kernel) rfl
theorem wi_97_4 : ri (rt_P sc fm) 97 4 (.ifCond .eq 4) (7) := ri_of (by decide +kernel) rfl
theorem wi_97_7 : ri (rt_P sc fm) 97 7 (.return_) (8) := ri_of (by decide +kernel) rfl
theorem wi_97_8 : ri (rt_P sc fm) 97 8 (.aload_n 0) (9) := ri_of (by decide +kernel) rfl
theorem wi_97_9 : ri (rt_P sc fm) 97 9 (.iconst 1) (10) := ri_of (by decide +kernel) rfl
theorem wp_97_409 : rx_pt (rt_P sc fm) 97 409 = some (15, 13, .boolean) := (by decide +kernel : rt_pt 97 409 = some (15, 13, .boolean))
theorem wp_97_412 : rx_pt (rt_P sc fm) 97 412 = some (15, 11, .int) := (by decide +kernel : rt_pt 97 412 = some (15, 11, .int))
theorem wp_97_415 : rx_pt (rt_P sc fm) 97 415 = some (15, 12, .int) := (by decide +kernel : rt_pt 97 415 = some (15, 12, .int))
theorem wr_97 : rx_rt (rt_P sc fm) 97 = none := (by decide +kernel : rt_rt 97 = none)
/-- MarkHouseModel.fault(II)V -/
def d_97 (n : Nat) (a1 : Int32) (a2 : Int32) (c : cS) : Option (cS) :=
  if (c.1 174 13) = 0 then
    lt (pI c 174 13 1) (fun c1 =>
    lt (pI c1 174 11 a1) (fun c3 =>
    lt (pI c3 174 12 a2) (fun c5 =>
    some c5)))
  else
    some c
set_option maxRecDepth 100000 in
set_option maxHeartbeats 4000000 in
theorem sp_97 {F Lo n : Nat} {a1 : Int32} {a2 : Int32} {c y : cS} {w : cW} {K : cS → Prop} {Q : ((Option Value) ⊕ String) → List va_E → Prop} (hw : rOK fm w) (hF : 0 ≤ F) (hLo : 0 ≤ Lo)  (h : wp (d_97 n a1 a2 c) K) (hQ : ∀ r, K r → Q (.inl none) (hq false r y w)) : rs (rt_P sc fm) 97 F Lo 0 [(0, .ref 174), (1, .int a1), (2, .int a2)] [] (hq false c y w) Q := by
  unfold d_97 at h
  obtain ⟨lv, elv⟩ : ∃ lv : rx_L, lv = [(0, .ref 174), (1, .int a1), (2, .int a2)] := ⟨_, rfl⟩
  rw [← elv]
  have l0 : rx_ld lv 0 = some (.ref 174) := by rw [elv]; rfl
  have l1 : rx_ld lv 1 = some (.int a1) := by rw [elv]; rfl
  have l2 : rx_ld lv 2 = some (.int a2) := by rw [elv]; rfl
  refine rs_aldn wi_97_0 l0 ?_
  refine dq_gi wi_97_1 wf_97_409 tf_174_13 ?_
  refine rs_ifeq (tg := 8) wi_97_4 ⟨by decide, by decide⟩ (fun q => ?_) (fun q => ?_)
  ·
    have h := wp_pos h q
    refine rs_aldn wi_97_8 l0 ?_
    refine rs_pure wi_97_9 rfl ?_
    refine rs_topi (v := 1) (by decide) ?_
    obtain ⟨c1, e2, h⟩ := wp_lt h
    refine dq_pi wi_97_10 wp_97_409 tf_174_13 (nb_n (by decide)) (nb_f (by decide)) e2 ?_
    refine rs_aldn wi_97_13 l0 ?_
    refine rs_ildn wi_97_14 l1 ?_
    obtain ⟨c3, e4, h⟩ := wp_lt h
    refine dq_pi wi_97_15 wp_97_412 tf_174_11 rfl rfl e4 ?_
    refine rs_aldn wi_97_18 l0 ?_
    refine rs_ildn wi_97_19 l2 ?_
    obtain ⟨c5, e6, h⟩ := wp_lt h
    refine dq_pi wi_97_20 wp_97_415 tf_174_12 rfl rfl e6 ?_
    exact rs_vret wi_97_23 wr_97 (hQ c5 h)
  ·
    have h := wp_neg h q
    exact rs_vret wi_97_7 wr_97 (hQ c h)
theorem t_178 : ta false 178 0 4001 := ⟨rfl, by decide, by decide⟩
theorem t_179 : ta false 179 0 4001 := ⟨rfl, by decide, by decide⟩
theorem t_180 : ta false 180 1 4001 := ⟨rfl, by decide, by decide⟩
theorem tf_174_10 : fo false 174 15 10 (.ref 180) := ⟨_, rfl, rfl, by decide, by decide⟩
theorem tf_174_7 : fo false 174 15 7 (.int 0) := ⟨_, rfl, rfl, by decide, by decide⟩
theorem tf_174_8 : fo false 174 15 8 (.ref 178) := ⟨_, rfl, rfl, by decide, by decide⟩
theorem tf_174_9 : fo false 174 15 9 (.ref 179) := ⟨_, rfl, rfl, by decide, by decide⟩
theorem wf_98_418 : rx_ft (rt_P sc fm) 98 418 = some (15, 7) := (by decide +kernel : rt_ft 98 418 = some (15, 7))
theorem wf_98_84 : rx_ft (rt_P sc fm) 98 84 = some (15, 8) := (by decide +kernel : rt_ft 98 84 = some (15, 8))
theorem wf_98_87 : rx_ft (rt_P sc fm) 98 87 = some (15, 9) := (by decide +kernel : rt_ft 98 87 = some (15, 9))
theorem wf_98_90 : rx_ft (rt_P sc fm) 98 90 = some (15, 10) := (by decide +kernel : rt_ft 98 90 = some (15, 10))
theorem wi_98_0 : ri (rt_P sc fm) 98 0 (.aload_n 0) (1) := ri_of (by decide +kernel) rfl
theorem wi_98_1 : ri (rt_P sc fm) 98 1 (.getfield 84) (4) := ri_of (by decide +kernel) rfl
theorem wi_98_10 : ri (rt_P sc fm) 98 10 (.aload_n 0) (11) := ri_of (by decide +kernel) rfl
theorem wi_98_11 : ri (rt_P sc fm) 98 11 (.getfield 87) (14) := ri_of (by decide +kernel) rfl
theorem wi_98_14 : ri (rt_P sc fm) 98 14 (.aload_n 0) (15) := ri_of (by decide +kernel) rfl
theorem wi_98_15 : ri (rt_P sc fm) 98 15 (.getfield 418) (18) := ri_of (by decide +kernel) rfl
theorem wi_98_18 : ri (rt_P sc fm) 98 18 (.iload_n 2) (19) := ri_of (by decide +kernel) rfl
theorem wi_98_19 : ri (rt_P sc fm) 98 19 (.iastore) (20) := ri_of (by decide +kernel) rfl
theorem wi_98_20 : ri (rt_P sc fm) 98 20 (.aload_n 0) (21) := ri_of (by decide +kernel) rfl
theorem wi_98_21 : ri (rt_P sc fm) 98 21 (.getfield 90) (24) := ri_of (by decide +kernel) rfl
theorem wi_98_24 : ri (rt_P sc fm) 98 24 (.aload_n 0) (25) := ri_of (by decide +kernel) rfl
theorem wi_98_25 : ri (rt_P sc fm) 98 25 (.getfield 418) (28) := ri_of (by decide +kernel) rfl
theorem wi_98_28 : ri (rt_P sc fm) 98 28 (.lload_n 3) (29) := ri_of (by decide +kernel) rfl
theorem wi_98_29 : ri (rt_P sc fm) 98 29 (.lastore) (30) := ri_of (by decide +kernel) rfl
theorem wi_98_30 : ri (rt_P sc fm) 98 30 (.aload_n 0) (31) := ri_of (by decide +kernel) rfl
theorem wi_98_31 : ri (rt_P sc fm) 98 31 (.dup) (32) := ri_of (by decide +kernel) rfl
theorem wi_98_32 : ri (rt_P sc fm) 98 32 (.getfield 418) (35) := ri_of (by decide +kernel) rfl
theorem wi_98_35 : ri (rt_P sc fm) 98 35 (.iconst 1) (36) := ri_of (by decide +kernel) rfl
theorem wi_98_36 : ri (rt_P sc fm) 98 36 (.iadd) (37) := ri_of (by decide +kernel) rfl
theorem wi_98_37 : ri (rt_P sc fm) 98 37 (.putfield 418) (40) := ri_of (by decide +kernel) rfl
theorem wi_98_4 : ri (rt_P sc fm) 98 4 (.aload_n 0) (5) := ri_of (by decide +kernel) rfl
theorem wi_98_40 : ri (rt_P sc fm) 98 40 (.return_) (41) := ri_of (by decide +kernel) rfl
theorem wi_98_5 : ri (rt_P sc fm) 98 5 (.getfield 418) (8) := ri_of (by decide +kernel) rfl
theorem wi_98_8 : ri (rt_P sc fm) 98 8 (.iload_n 1) (9) := ri_of (by decide +kernel) rfl
theorem wi_98_9 : ri (rt_P sc fm) 98 9 (.iastore) (10) := ri_of (by decide +kernel) rfl
theorem wp_98_418 : rx_pt (rt_P sc fm) 98 418 = some (15, 7, .int) := (by decide +kernel : rt_pt 98 418 = some (15, 7, .int))
theorem wr_98 : rx_rt (rt_P sc fm) 98 = none := (by decide +kernel : rt_rt 98 = none)
/-- MarkHouseModel.lexeme(IIJ)V -/
def d_98 (n : Nat) (a1 : Int32) (a2 : Int32) (a3 : Int64) (c : cS) : Option (cS) :=
  if ib (c.1 174 7) 4001 then
  lt (pI c 178 (ix (c.1 174 7)) a1) (fun c2 =>
  if ib (c2.1 174 7) 4001 then
  lt (pI c2 179 (ix (c2.1 174 7)) a2) (fun c5 =>
  if ib (c5.1 174 7) 4001 then
  lt (pL c5 180 (ix (c5.1 174 7)) a3) (fun c8 =>
  lt (pI c8 174 7 ((c8.1 174 7) + 1)) (fun c10 =>
  some c10))
  else none)
  else none)
  else none
set_option maxRecDepth 100000 in
set_option maxHeartbeats 4000000 in
theorem sp_98 {F Lo n : Nat} {a1 : Int32} {a2 : Int32} {a3 : Int64} {c y : cS} {w : cW} {K : cS → Prop} {Q : ((Option Value) ⊕ String) → List va_E → Prop} (hw : rOK fm w) (hF : 0 ≤ F) (hLo : 0 ≤ Lo)  (h : wp (d_98 n a1 a2 a3 c) K) (hQ : ∀ r, K r → Q (.inl none) (hq false r y w)) : rs (rt_P sc fm) 98 F Lo 0 [(0, .ref 174), (1, .int a1), (2, .int a2), (3, .long a3)] [] (hq false c y w) Q := by
  unfold d_98 at h
  obtain ⟨lv, elv⟩ : ∃ lv : rx_L, lv = [(0, .ref 174), (1, .int a1), (2, .int a2), (3, .long a3)] := ⟨_, rfl⟩
  rw [← elv]
  have l0 : rx_ld lv 0 = some (.ref 174) := by rw [elv]; rfl
  have l1 : rx_ld lv 1 = some (.int a1) := by rw [elv]; rfl
  have l2 : rx_ld lv 2 = some (.int a2) := by rw [elv]; rfl
  have l3 : rx_ld lv 3 = some (.long a3) := by rw [elv]; rfl
  refine rs_aldn wi_98_0 l0 ?_
  refine dq_gr wi_98_1 wf_98_84 tf_174_8 ?_
  refine rs_aldn wi_98_4 l0 ?_
  refine dq_gi wi_98_5 wf_98_418 tf_174_7 ?_
  refine rs_ildn wi_98_8 l1 ?_
  obtain ⟨g1, h⟩ := wp_gd h
  obtain ⟨c2, e3, h⟩ := wp_lt h
  refine dq_iast wi_98_9 t_178 g1 e3 ?_
  refine rs_aldn wi_98_10 l0 ?_
  refine dq_gr wi_98_11 wf_98_87 tf_174_9 ?_
  refine rs_aldn wi_98_14 l0 ?_
  refine dq_gi wi_98_15 wf_98_418 tf_174_7 ?_
  refine rs_ildn wi_98_18 l2 ?_
  obtain ⟨g4, h⟩ := wp_gd h
  obtain ⟨c5, e6, h⟩ := wp_lt h
  refine dq_iast wi_98_19 t_179 g4 e6 ?_
  refine rs_aldn wi_98_20 l0 ?_
  refine dq_gr wi_98_21 wf_98_90 tf_174_10 ?_
  refine rs_aldn wi_98_24 l0 ?_
  refine dq_gi wi_98_25 wf_98_418 tf_174_7 ?_
  refine rs_lldn wi_98_28 l3 ?_
  obtain ⟨g7, h⟩ := wp_gd h
  obtain ⟨c8, e9, h⟩ := wp_lt h
  refine dq_last wi_98_29 t_180 g7 e9 ?_
  refine rs_aldn wi_98_30 l0 ?_
  refine rs_pure wi_98_31 rfl ?_
  refine dq_gi wi_98_32 wf_98_418 tf_174_7 ?_
  refine rs_pure wi_98_35 rfl ?_
  refine rs_topi (v := 1) (by decide) ?_
  refine rs_pure wi_98_36 rfl ?_
  obtain ⟨c10, e11, h⟩ := wp_lt h
  refine dq_pi wi_98_37 wp_98_418 tf_174_7 rfl rfl e11 ?_
  exact rs_vret wi_98_40 wr_98 (hQ c10 h)
theorem wi_367_0 : ri (rt_P sc fm) 367 0 (.iload_n 0) (1) := ri_of (by decide +kernel) rfl
theorem wi_367_1 : ri (rt_P sc fm) 367 1 (.bipush 97) (3) := ri_of (by decide +kernel) rfl
theorem wi_367_12 : ri (rt_P sc fm) 367 12 (.iload_n 0) (13) := ri_of (by decide +kernel) rfl
theorem wi_367_13 : ri (rt_P sc fm) 367 13 (.bipush 65) (15) := ri_of (by decide +kernel) rfl
theorem wi_367_15 : ri (rt_P sc fm) 367 15 (.if_icmp .lt 13) (18) := ri_of (by decide +kernel) rfl
theorem wi_367_18 : ri (rt_P sc fm) 367 18 (.iload_n 0) (19) := ri_of (by decide +kernel) rfl
theorem wi_367_19 : ri (rt_P sc fm) 367 19 (.bipush 90) (21) := ri_of (by decide +kernel) rfl
theorem wi_367_21 : ri (rt_P sc fm) 367 21 (.if_icmp .gt 7) (24) := ri_of (by decide +kernel) rfl
theorem wi_367_24 : ri (rt_P sc fm) 367 24 (.iconst 1) (25) := ri_of (by decide +kernel) rfl
theorem wi_367_25 : ri (rt_P sc fm) 367 25 (.goto 4) (28) := ri_of (by decide +kernel) rfl
theorem wi_367_28 : ri (rt_P sc fm) 367 28 (.iconst 0) (29) := ri_of (by decide +kernel) rfl
theorem wi_367_29 : ri (rt_P sc fm) 367 29 (.ireturn) (30) := ri_of (by decide +kernel) rfl
theorem wi_367_3 : ri (rt_P sc fm) 367 3 (.if_icmp .lt 9) (6) := ri_of (by decide +kernel) rfl
theorem wi_367_6 : ri (rt_P sc fm) 367 6 (.iload_n 0) (7) := ri_of (by decide +kernel) rfl
theorem wi_367_7 : ri (rt_P sc fm) 367 7 (.bipush 122) (9) := ri_of (by decide +kernel) rfl
theorem wi_367_9 : ri (rt_P sc fm) 367 9 (.if_icmp .le 15) (12) := ri_of (by decide +kernel) rfl
theorem wr_367 : rx_rt (rt_P sc fm) 367 = (some FieldType.boolean) := (by decide +kernel : rt_rt 367 = (some FieldType.boolean))
/-- MarkHouseModel.isLetter(I)Z -/
def d_367 (n : Nat) (a0 : Int32) : Option (Int32) :=
  jn (fun p1 : Int32 =>
    if nb p1 then
    some p1
    else none)
  (fun j29 =>
  jn (fun p3 : Unit =>
    j29 1)
  (fun j24 =>
  jn (fun p4 : Unit =>
    jn (fun p5 : Unit =>
      j29 0)
    (fun j28 =>
    if a0 < 65 then
      j28 ()
    else
      if 90 < a0 then
        j28 ()
      else
        j24 ()))
  (fun j12 =>
  if a0 < 97 then
    j12 ()
  else
    if a0 ≤ 122 then
      j24 ()
    else
      j12 ())))
set_option maxRecDepth 100000 in
set_option maxHeartbeats 4000000 in
theorem sp_367 {F Lo n : Nat} {a0 : Int32} {L : List va_E} {K : Int32 → Prop} {Q : ((Option Value) ⊕ String) → List va_E → Prop} (hF : 0 ≤ F) (hLo : 0 ≤ Lo)  (h : wp (d_367 n a0) K) (hQ : ∀ r, K r → Q (.inl (some (.int r))) L) : rs (rt_P sc fm) 367 F Lo 0 [(0, .int a0)] [] L Q := by
  unfold d_367 at h
  obtain ⟨lv, elv⟩ : ∃ lv : rx_L, lv = [(0, .int a0)] := ⟨_, rfl⟩
  rw [← elv]
  have l0 : rx_ld lv 0 = some (.int a0) := by rw [elv]; rfl
  refine rs_ildn wi_367_0 l0 ?_
  refine rs_pure wi_367_1 rfl ?_
  refine rs_topi (v := 97) (by decide) ?_
  refine wp_jn (B := fun p1 : Int32 => ∀ lv, rs (rt_P sc fm) 367 F Lo 29 lv [.int p1] L Q) h (fun p1 h lv => ?_) (fun j29 hj29 h => ?_)
  ·
    obtain ⟨g2, h⟩ := wp_gd h
    exact rs_iret wi_367_29 wr_367 (nb_n g2) (hQ p1 h)
  refine wp_jn (B := fun p3 : Unit => ∀ lv, rs (rt_P sc fm) 367 F Lo 24 lv [] L Q) h (fun p3 h lv => ?_) (fun j24 hj24 h => ?_)
  ·
    refine rs_pure wi_367_24 rfl ?_
    refine rs_topi (v := 1) (by decide) ?_
    refine rs_goto (tg := 29) wi_367_25 ⟨by decide, by decide⟩ ?_
    exact hj29 _ h _
  refine wp_jn (B := fun p4 : Unit => ∀ lv, rx_ld lv 0 = some (.int a0) → rs (rt_P sc fm) 367 F Lo 12 lv [] L Q) h (fun p4 h lv l0 => ?_) (fun j12 hj12 h => ?_)
  ·
    refine rs_ildn wi_367_12 l0 ?_
    refine rs_pure wi_367_13 rfl ?_
    refine rs_topi (v := 65) (by decide) ?_
    refine wp_jn (B := fun p5 : Unit => ∀ lv, rs (rt_P sc fm) 367 F Lo 28 lv [] L Q) h (fun p5 h lv => ?_) (fun j28 hj28 h => ?_)
    ·
      refine rs_pure wi_367_28 rfl ?_
      refine rs_topi (v := 0) (by decide) ?_
      exact hj29 _ h _
    refine rs_iclt (tg := 28) wi_367_15 ⟨by decide, by decide⟩ (fun q => ?_) (fun q => ?_)
    ·
      have h := wp_pos h q
      exact hj28 _ h _
    ·
      have h := wp_neg h q
      refine rs_ildn wi_367_18 l0 ?_
      refine rs_pure wi_367_19 rfl ?_
      refine rs_topi (v := 90) (by decide) ?_
      refine rs_icgt (tg := 28) wi_367_21 ⟨by decide, by decide⟩ (fun q => ?_) (fun q => ?_)
      ·
        have h := wp_pos h q
        exact hj28 _ h _
      ·
        have h := wp_neg h q
        exact hj24 _ h _
  refine rs_iclt (tg := 12) wi_367_3 ⟨by decide, by decide⟩ (fun q => ?_) (fun q => ?_)
  ·
    have h := wp_pos h q
    exact hj12 _ h _ l0
  ·
    have h := wp_neg h q
    refine rs_ildn wi_367_6 l0 ?_
    refine rs_pure wi_367_7 rfl ?_
    refine rs_topi (v := 122) (by decide) ?_
    refine rs_icle (tg := 24) wi_367_9 ⟨by decide, by decide⟩ (fun q => ?_) (fun q => ?_)
    ·
      have h := wp_pos h q
      exact hj24 _ h _
    ·
      have h := wp_neg h q
      exact hj12 _ h _ l0
theorem wi_368_0 : ri (rt_P sc fm) 368 0 (.iload_n 0) (1) := ri_of (by decide +kernel) rfl
theorem wi_368_1 : ri (rt_P sc fm) 368 1 (.bipush 48) (3) := ri_of (by decide +kernel) rfl
theorem wi_368_12 : ri (rt_P sc fm) 368 12 (.iconst 1) (13) := ri_of (by decide +kernel) rfl
theorem wi_368_13 : ri (rt_P sc fm) 368 13 (.goto 4) (16) := ri_of (by decide +kernel) rfl
theorem wi_368_16 : ri (rt_P sc fm) 368 16 (.iconst 0) (17) := ri_of (by decide +kernel) rfl
theorem wi_368_17 : ri (rt_P sc fm) 368 17 (.ireturn) (18) := ri_of (by decide +kernel) rfl
theorem wi_368_3 : ri (rt_P sc fm) 368 3 (.if_icmp .lt 13) (6) := ri_of (by decide +kernel) rfl
theorem wi_368_6 : ri (rt_P sc fm) 368 6 (.iload_n 0) (7) := ri_of (by decide +kernel) rfl
theorem wi_368_7 : ri (rt_P sc fm) 368 7 (.bipush 57) (9) := ri_of (by decide +kernel) rfl
theorem wi_368_9 : ri (rt_P sc fm) 368 9 (.if_icmp .gt 7) (12) := ri_of (by decide +kernel) rfl
theorem wr_368 : rx_rt (rt_P sc fm) 368 = (some FieldType.boolean) := (by decide +kernel : rt_rt 368 = (some FieldType.boolean))
/-- MarkHouseModel.isDigit(I)Z -/
def d_368 (n : Nat) (a0 : Int32) : Option (Int32) :=
  jn (fun p1 : Int32 =>
    if nb p1 then
    some p1
    else none)
  (fun j17 =>
  jn (fun p3 : Unit =>
    j17 0)
  (fun j16 =>
  if a0 < 48 then
    j16 ()
  else
    if 57 < a0 then
      j16 ()
    else
      j17 1))
set_option maxRecDepth 100000 in
set_option maxHeartbeats 4000000 in
theorem sp_368 {F Lo n : Nat} {a0 : Int32} {L : List va_E} {K : Int32 → Prop} {Q : ((Option Value) ⊕ String) → List va_E → Prop} (hF : 0 ≤ F) (hLo : 0 ≤ Lo)  (h : wp (d_368 n a0) K) (hQ : ∀ r, K r → Q (.inl (some (.int r))) L) : rs (rt_P sc fm) 368 F Lo 0 [(0, .int a0)] [] L Q := by
  unfold d_368 at h
  obtain ⟨lv, elv⟩ : ∃ lv : rx_L, lv = [(0, .int a0)] := ⟨_, rfl⟩
  rw [← elv]
  have l0 : rx_ld lv 0 = some (.int a0) := by rw [elv]; rfl
  refine rs_ildn wi_368_0 l0 ?_
  refine rs_pure wi_368_1 rfl ?_
  refine rs_topi (v := 48) (by decide) ?_
  refine wp_jn (B := fun p1 : Int32 => ∀ lv, rs (rt_P sc fm) 368 F Lo 17 lv [.int p1] L Q) h (fun p1 h lv => ?_) (fun j17 hj17 h => ?_)
  ·
    obtain ⟨g2, h⟩ := wp_gd h
    exact rs_iret wi_368_17 wr_368 (nb_n g2) (hQ p1 h)
  refine wp_jn (B := fun p3 : Unit => ∀ lv, rs (rt_P sc fm) 368 F Lo 16 lv [] L Q) h (fun p3 h lv => ?_) (fun j16 hj16 h => ?_)
  ·
    refine rs_pure wi_368_16 rfl ?_
    refine rs_topi (v := 0) (by decide) ?_
    exact hj17 _ h _
  refine rs_iclt (tg := 16) wi_368_3 ⟨by decide, by decide⟩ (fun q => ?_) (fun q => ?_)
  ·
    have h := wp_pos h q
    exact hj16 _ h _
  ·
    have h := wp_neg h q
    refine rs_ildn wi_368_6 l0 ?_
    refine rs_pure wi_368_7 rfl ?_
    refine rs_topi (v := 57) (by decide) ?_
    refine rs_icgt (tg := 16) wi_368_9 ⟨by decide, by decide⟩ (fun q => ?_) (fun q => ?_)
    ·
      have h := wp_pos h q
      exact hj16 _ h _
    ·
      have h := wp_neg h q
      refine rs_pure wi_368_12 rfl ?_
      refine rs_topi (v := 1) (by decide) ?_
      refine rs_goto (tg := 17) wi_368_13 ⟨by decide, by decide⟩ ?_
      exact hj17 _ h _
theorem wc_370_385 : rx_ct (rt_P sc fm) 370 385 = some (0, 145, 0) := (by decide +kernel : rt_ct 370 385 = some (0, 145, 0))
theorem wc_370_389 : rx_ct (rt_P sc fm) 370 389 = some (0, 146, 1) := (by decide +kernel : rt_ct 370 389 = some (0, 146, 1))
theorem wi_370_0 : ri (rt_P sc fm) 370 0 (.lconst 0) (1) := ri_of (by decide +kernel) rfl
theorem wi_370_1 : ri (rt_P sc fm) 370 1 (.lstore_n 1) (2) := ri_of (by decide +kernel) rfl
theorem wi_370_12 : ri (rt_P sc fm) 370 12 (.lload_n 1) (13) := ri_of (by decide +kernel) rfl
theorem wi_370_13 : ri (rt_P sc fm) 370 13 (.bipush 8) (15) := ri_of (by decide +kernel) rfl
theorem wi_370_15 : ri (rt_P sc fm) 370 15 (.lshl) (16) := ri_of (by decide +kernel) rfl
theorem wi_370_16 : ri (rt_P sc fm) 370 16 (.aload_n 0) (17) := ri_of (by decide +kernel) rfl
theorem wi_370_17 : ri (rt_P sc fm) 370 17 (.iload_n 3) (18) := ri_of (by decide +kernel) rfl
theorem wi_370_18 : ri (rt_P sc fm) 370 18 (.invokevirtual 389) (21) := ri_of (by decide +kernel) rfl
theorem wi_370_2 : ri (rt_P sc fm) 370 2 (.iconst 0) (3) := ri_of (by decide +kernel) rfl
theorem wi_370_21 : ri (rt_P sc fm) 370 21 (.i2l) (22) := ri_of (by decide +kernel) rfl
theorem wi_370_22 : ri (rt_P sc fm) 370 22 (.lor) (23) := ri_of (by decide +kernel) rfl
theorem wi_370_23 : ri (rt_P sc fm) 370 23 (.lstore_n 1) (24) := ri_of (by decide +kernel) rfl
theorem wi_370_24 : ri (rt_P sc fm) 370 24 (.iinc 3 1) (27) := ri_of (by decide +kernel) rfl
theorem wi_370_27 : ri (rt_P sc fm) 370 27 (.goto (-23)) (30) := ri_of (by decide +kernel) rfl
theorem wi_370_3 : ri (rt_P sc fm) 370 3 (.istore_n 3) (4) := ri_of (by decide +kernel) rfl
theorem wi_370_30 : ri (rt_P sc fm) 370 30 (.lload_n 1) (31) := ri_of (by decide +kernel) rfl
theorem wi_370_31 : ri (rt_P sc fm) 370 31 (.lreturn) (32) := ri_of (by decide +kernel) rfl
theorem wi_370_4 : ri (rt_P sc fm) 370 4 (.iload_n 3) (5) := ri_of (by decide +kernel) rfl
theorem wi_370_5 : ri (rt_P sc fm) 370 5 (.aload_n 0) (6) := ri_of (by decide +kernel) rfl
theorem wi_370_6 : ri (rt_P sc fm) 370 6 (.invokevirtual 385) (9) := ri_of (by decide +kernel) rfl
theorem wi_370_9 : ri (rt_P sc fm) 370 9 (.if_icmp .ge 21) (12) := ri_of (by decide +kernel) rfl
theorem wr_370 : rx_rt (rt_P sc fm) 370 = (some FieldType.long) := (by decide +kernel : rt_rt 370 = (some FieldType.long))
/-- MarkHouseModel.packed(Ljava/lang/String;)J -/
def d_370 (n : Nat) (j0 : Nat) : Option (Int64) :=
  Option.bind (whl (R := (Int64)) (fun s3 : Int64 × Int32 =>
    Option.bind (d_145 n j0) (fun v4 =>
    if v4 ≤ s3.2 then
      some (.inr s3.1)
    else
      Option.bind (d_146 n j0 s3.2) (fun v5 =>
      lt (((s3.1 <<< ((8 : Int32).toInt64 &&& 63)) ||| (v5 : Int32).toInt64) : Int64) (fun v7 =>
      lt (s3.2 + 1 : Int32) (fun v10 =>
      some (.inl (v7, v10))))))) n (0, 0))
  (fun x12 : Int64 =>
    some x12)
set_option maxRecDepth 100000 in
set_option maxHeartbeats 4000000 in
theorem sp_370 {F Lo n : Nat} {j0 : Nat} {L : List va_E} {K : Int64 → Prop} {Q : ((Option Value) ⊕ String) → List va_E → Prop} (hL : L.length ≤ rx_B) (hfm : fm = .null ∨ fm = .ref rx_Fm) (hF : 4 ≤ F) (hLo : 85 ≤ Lo) (hj0 : (rt_sb j0).isSome = true) (h : wp (d_370 n j0) K) (hQ : ∀ r, K r → Q (.inl (some (.long r))) L) : rs (rt_P sc fm) 370 F Lo 0 [(0, .ref (rx_K j0))] [] L Q := by
  unfold d_370 at h
  obtain ⟨lv, elv⟩ : ∃ lv : rx_L, lv = [(0, .ref (rx_K j0))] := ⟨_, rfl⟩
  rw [← elv]
  have l0 : rx_ld lv 0 = some (.ref (rx_K j0)) := by rw [elv]; rfl
  refine rs_pure wi_370_0 rfl ?_
  refine rs_topl (v := 0) (by decide) ?_
  refine dl_lstn wi_370_1 rfl (fun lv l1 t1 => ?_)
  have l0 := t1 _ _ (by decide) (by decide) (Or.inl rfl) l0
  refine rs_pure wi_370_2 rfl ?_
  refine rs_topi (v := 0) (by decide) ?_
  refine dl_istn wi_370_3 rfl (fun lv l3 t2 => ?_)
  have l0 := t2 _ _ (by decide) (Or.inl rfl) l0
  have l1 := t2 _ _ (by decide) (Or.inr (by decide)) l1
  refine whl_ex (A := fun s3 : Int64 × Int32 => ∀ lv, rx_ld lv 0 = some (.ref (rx_K j0)) → rx_ld lv 1 = some (.long s3.1) → rx_ld lv 3 = some (.int s3.2) → rs (rt_P sc fm) 370 F Lo 4 lv [] L Q) (B := (fun x12 : Int64 => ∀ lv, rx_ld lv 1 = some (.long x12) → rs (rt_P sc fm) 370 F Lo 30 lv [] L Q)) ?_ ?_ _ _ (wp_bind h) _ l0 l1 l3
  · intro s3 h lv l0 l1 l3
    refine rs_ildn wi_370_4 l3 ?_
    refine rs_aldn wi_370_5 l0 ?_
    refine rs_V wi_370_6 wc_370_385 rfl (dq_isaS hL hj0 was_145) (Nat.le_trans (by decide) hF) (ml_le wm_145 (Nat.le_trans (by decide) hLo)) rfl (sp_145 hL hfm (Nat.le_trans (by decide : 1 ≤ 4 - 1) (Nat.sub_le_sub_right hF 1)) (ml_sub wm_145 (Nat.le_trans (by decide : 20 ≤ 85 - 20) (Nat.sub_le_sub_right hLo 20))) hj0 (wp_bind h) (fun v4 h => rs_back1 ?_))
    refine rs_icge (tg := 30) wi_370_9 ⟨by decide, by decide⟩ (fun q => ?_) (fun q => ?_)
    ·
      have h := wp_pos h q
      exact h _ l1
    ·
      have h := wp_neg h q
      refine rs_lldn wi_370_12 l1 ?_
      refine rs_pure wi_370_13 rfl ?_
      refine rs_topi (v := 8) (by decide) ?_
      refine rs_pure wi_370_15 rfl ?_
      refine rs_aldn wi_370_16 l0 ?_
      refine rs_ildn wi_370_17 l3 ?_
      refine rs_V wi_370_18 wc_370_389 rfl (dq_isaS hL hj0 was_146) (Nat.le_trans (by decide) hF) (ml_le wm_146 (Nat.le_trans (by decide) hLo)) rfl (sp_146 hL hfm (Nat.le_trans (by decide : 3 ≤ 4 - 1) (Nat.sub_le_sub_right hF 1)) (ml_sub wm_146 (Nat.le_trans (by decide : 64 ≤ 85 - 21) (Nat.sub_le_sub_right hLo 21))) hj0 (wp_bind h) (fun v5 h => rs_back1 ?_))
      refine rs_pure wi_370_21 rfl ?_
      refine rs_pure wi_370_22 rfl ?_
      obtain ⟨v7, e8, h⟩ := wp_lt h
      refine rs_topl e8 ?_
      refine dl_lstn wi_370_23 rfl (fun lv l1 t6 => ?_)
      have l0 := t6 _ _ (by decide) (by decide) (Or.inl rfl) l0
      have l3 := t6 _ _ (by decide) (by decide) (Or.inl rfl) l3
      obtain ⟨v10, e11, h⟩ := wp_lt h
      refine dl_inc wi_370_24 l3 rfl e11 (fun lv l3 t9 => ?_)
      have l0 := t9 _ _ (by decide) (Or.inl rfl) l0
      have l1 := t9 _ _ (by decide) (Or.inr (by decide)) l1
      refine rs_goto (tg := 4) wi_370_27 ⟨by decide, by decide⟩ ?_
      exact h _ l0 l1 l3
  ·
    intro x12 h lv l1
    refine rs_lldn wi_370_30 l1 ?_
    exact rs_lret wi_370_31 wr_370 (hQ x12 h)
theorem t_177 : ta false 177 6 31 := ⟨rfl, by decide, by decide⟩
theorem tf_174_6 : fo false 174 15 6 (.ref 177) := ⟨_, rfl, rfl, by decide, by decide⟩
theorem wc_371_421 : rx_ct (rt_P sc fm) 371 421 = some (1, 370, 1) := (by decide +kernel : rt_ct 371 421 = some (1, 370, 1))
theorem wf_371_80 : rx_ft (rt_P sc fm) 371 80 = some (15, 6) := (by decide +kernel : rt_ft 371 80 = some (15, 6))
theorem wi_371_0 : ri (rt_P sc fm) 371 0 (.iconst 0) (1) := ri_of (by decide +kernel) rfl
theorem wi_371_1 : ri (rt_P sc fm) 371 1 (.istore_n 3) (2) := ri_of (by decide +kernel) rfl
theorem wi_371_11 : ri (rt_P sc fm) 371 11 (.aload_n 0) (12) := ri_of (by decide +kernel) rfl
theorem wi_371_12 : ri (rt_P sc fm) 371 12 (.getfield 80) (15) := ri_of (by decide +kernel) rfl
theorem wi_371_15 : ri (rt_P sc fm) 371 15 (.iload_n 3) (16) := ri_of (by decide +kernel) rfl
theorem wi_371_16 : ri (rt_P sc fm) 371 16 (.aaload) (17) := ri_of (by decide +kernel) rfl
theorem wi_371_17 : ri (rt_P sc fm) 371 17 (.invokestatic 421) (20) := ri_of (by decide +kernel) rfl
theorem wi_371_2 : ri (rt_P sc fm) 371 2 (.iload_n 3) (3) := ri_of (by decide +kernel) rfl
theorem wi_371_20 : ri (rt_P sc fm) 371 20 (.lload_n 1) (21) := ri_of (by decide +kernel) rfl
theorem wi_371_21 : ri (rt_P sc fm) 371 21 (.lcmp) (22) := ri_of (by decide +kernel) rfl
theorem wi_371_22 : ri (rt_P sc fm) 371 22 (.ifCond .ne 5) (25) := ri_of (by decide +kernel) rfl
theorem wi_371_25 : ri (rt_P sc fm) 371 25 (.iload_n 3) (26) := ri_of (by decide +kernel) rfl
theorem wi_371_26 : ri (rt_P sc fm) 371 26 (.ireturn) (27) := ri_of (by decide +kernel) rfl
theorem wi_371_27 : ri (rt_P sc fm) 371 27 (.iinc 3 1) (30) := ri_of (by decide +kernel) rfl
theorem wi_371_3 : ri (rt_P sc fm) 371 3 (.aload_n 0) (4) := ri_of (by decide +kernel) rfl
theorem wi_371_30 : ri (rt_P sc fm) 371 30 (.goto (-28)) (33) := ri_of (by decide +kernel) rfl
theorem wi_371_33 : ri (rt_P sc fm) 371 33 (.iconst (-1)) (34) := ri_of (by decide +kernel) rfl
theorem wi_371_34 : ri (rt_P sc fm) 371 34 (.ireturn) (35) := ri_of (by decide +kernel) rfl
theorem wi_371_4 : ri (rt_P sc fm) 371 4 (.getfield 80) (7) := ri_of (by decide +kernel) rfl
theorem wi_371_7 : ri (rt_P sc fm) 371 7 (.arraylength) (8) := ri_of (by decide +kernel) rfl
theorem wi_371_8 : ri (rt_P sc fm) 371 8 (.if_icmp .ge 25) (11) := ri_of (by decide +kernel) rfl
theorem wm_370 : rx_ml (rt_P sc fm) 370 = 4 := (by decide +kernel : rt_ml 370 = 4)
theorem wr_371 : rx_rt (rt_P sc fm) 371 = (some FieldType.int) := (by decide +kernel : rt_rt 371 = (some FieldType.int))
/-- MarkHouseModel.wordOf(J)I -/
def d_371 (n : Nat) (a1 : Int64) (c : cS) : Option (Int32) :=
  Option.bind (whl (R := (Unit) ⊕ (Int32)) (fun s2 : Int32 =>
    if 31 ≤ s2 then
      some (.inr (.inl ()))
    else
      if ib s2 31 then
      Option.bind (d_370 n (2 + (ix s2))) (fun v4 =>
      if (lg_cmp v4 a1) = 0 then
        some (.inr (.inr s2))
      else
        lt (s2 + 1 : Int32) (fun v6 =>
        some (.inl v6)))
      else none) n 0)
  (Sum.elim (fun x8 : Unit =>
    some (-1))
  (fun x9 : Int32 =>
    some x9))
set_option maxRecDepth 100000 in
set_option maxHeartbeats 4000000 in
theorem sp_371 {F Lo n : Nat} {a1 : Int64} {c y : cS} {w : cW} {K : Int32 → Prop} {Q : ((Option Value) ⊕ String) → List va_E → Prop} (hw : rOK fm w) (hF : 5 ≤ F) (hLo : 108 ≤ Lo)  (h : wp (d_371 n a1 c) K) (hQ : ∀ r, K r → Q (.inl (some (.int r))) (hq false c y w)) : rs (rt_P sc fm) 371 F Lo 0 [(0, .ref 174), (1, .long a1)] [] (hq false c y w) Q := by
  unfold d_371 at h
  obtain ⟨lv, elv⟩ : ∃ lv : rx_L, lv = [(0, .ref 174), (1, .long a1)] := ⟨_, rfl⟩
  rw [← elv]
  have l0 : rx_ld lv 0 = some (.ref 174) := by rw [elv]; rfl
  have l1 : rx_ld lv 1 = some (.long a1) := by rw [elv]; rfl
  refine rs_pure wi_371_0 rfl ?_
  refine rs_topi (v := 0) (by decide) ?_
  refine dl_istn wi_371_1 rfl (fun lv l3 t1 => ?_)
  have l0 := t1 _ _ (by decide) (Or.inl rfl) l0
  have l1 := t1 _ _ (by decide) (Or.inr (by decide)) l1
  refine whl_ex (A := fun s2 : Int32 => ∀ lv, rx_ld lv 0 = some (.ref 174) → rx_ld lv 1 = some (.long a1) → rx_ld lv 3 = some (.int s2) → rs (rt_P sc fm) 371 F Lo 2 lv [] (hq false c y w) Q) (B := (Sum.elim (fun x8 : Unit => ∀ lv, rs (rt_P sc fm) 371 F Lo 33 lv [] (hq false c y w) Q) (fun x9 : Int32 => ∀ lv, rx_ld lv 3 = some (.int x9) → rs (rt_P sc fm) 371 F Lo 25 lv [] (hq false c y w) Q))) ?_ ?_ _ _ (wp_bind h) _ l0 l1 l3
  · intro s2 h lv l0 l1 l3
    refine rs_ildn wi_371_2 l3 ?_
    refine rs_aldn wi_371_3 l0 ?_
    refine dq_gr wi_371_4 wf_371_80 tf_174_6 ?_
    refine dq_alenW wi_371_7 t_177 ?_
    refine rs_topi (v := 31) (by decide) ?_
    refine rs_icge (tg := 33) wi_371_8 ⟨by decide, by decide⟩ (fun q => ?_) (fun q => ?_)
    ·
      have h := wp_pos h q
      exact h _
    ·
      have h := wp_neg h q
      refine rs_aldn wi_371_11 l0 ?_
      refine dq_gr wi_371_12 wf_371_80 tf_174_6 ?_
      refine rs_ildn wi_371_15 l3 ?_
      obtain ⟨g3, h⟩ := wp_gd h
      refine dq_aald wi_371_16 (by decide) t_177 g3 (hw.2.2.1 _ (ib_lt g3)) ?_
      refine rs_S wi_371_17 wc_371_421 (Or.inl rfl) rfl (Nat.le_trans (by decide) hF) (ml_le wm_370 (Nat.le_trans (by decide) hLo)) rfl (sp_370 hq_len hw.2.2.2 (Nat.le_trans (by decide : 4 ≤ 5 - 1) (Nat.sub_le_sub_right hF 1)) (ml_sub wm_370 (Nat.le_trans (by decide : 85 ≤ 108 - 23) (Nat.sub_le_sub_right hLo 23))) (rw_some (ib_lt g3)) (wp_bind h) (fun v4 h => rs_back1 ?_))
      refine rs_lldn wi_371_20 l1 ?_
      refine rs_pure wi_371_21 rfl ?_
      refine rs_ifne (tg := 27) wi_371_22 ⟨by decide, by decide⟩ (fun q => ?_) (fun q => ?_)
      ·
        have h := wp_neg h q
        obtain ⟨v6, e7, h⟩ := wp_lt h
        refine dl_inc wi_371_27 l3 rfl e7 (fun lv l3 t5 => ?_)
        have l0 := t5 _ _ (by decide) (Or.inl rfl) l0
        have l1 := t5 _ _ (by decide) (Or.inr (by decide)) l1
        refine rs_goto (tg := 2) wi_371_30 ⟨by decide, by decide⟩ ?_
        exact h _ l0 l1 l3
      ·
        have h := wp_pos h q
        exact h _ l3
  ·
    refine sum_all ?_ ?_
    ·
      intro x8 h lv
      have h := wp_inl h
      refine rs_pure wi_371_33 rfl ?_
      refine rs_topi (v := (-1)) (by decide) ?_
      exact rs_iret wi_371_34 wr_371 rfl (hQ (-1) h)
    ·
      intro x9 h lv l3
      have h := wp_inr h
      refine rs_ildn wi_371_25 l3 ?_
      exact rs_iret wi_371_26 wr_371 rfl (hQ x9 h)
theorem wi_369_0 : ri (rt_P sc fm) 369 0 (.iload_n 0) (1) := ri_of (by decide +kernel) rfl
theorem wi_369_1 : ri (rt_P sc fm) 369 1 (.bipush 58) (3) := ri_of (by decide +kernel) rfl
theorem wi_369_12 : ri (rt_P sc fm) 369 12 (.iload_n 0) (13) := ri_of (by decide +kernel) rfl
theorem wi_369_13 : ri (rt_P sc fm) 369 13 (.bipush 44) (15) := ri_of (by decide +kernel) rfl
theorem wi_369_15 : ri (rt_P sc fm) 369 15 (.if_icmp .eq 57) (18) := ri_of (by decide +kernel) rfl
theorem wi_369_18 : ri (rt_P sc fm) 369 18 (.iload_n 0) (19) := ri_of (by decide +kernel) rfl
theorem wi_369_19 : ri (rt_P sc fm) 369 19 (.bipush 46) (21) := ri_of (by decide +kernel) rfl
theorem wi_369_21 : ri (rt_P sc fm) 369 21 (.if_icmp .eq 51) (24) := ri_of (by decide +kernel) rfl
theorem wi_369_24 : ri (rt_P sc fm) 369 24 (.iload_n 0) (25) := ri_of (by decide +kernel) rfl
theorem wi_369_25 : ri (rt_P sc fm) 369 25 (.bipush 61) (27) := ri_of (by decide +kernel) rfl
theorem wi_369_27 : ri (rt_P sc fm) 369 27 (.if_icmp .eq 45) (30) := ri_of (by decide +kernel) rfl
theorem wi_369_3 : ri (rt_P sc fm) 369 3 (.if_icmp .eq 69) (6) := ri_of (by decide +kernel) rfl
theorem wi_369_30 : ri (rt_P sc fm) 369 30 (.iload_n 0) (31) := ri_of (by decide +kernel) rfl
theorem wi_369_31 : ri (rt_P sc fm) 369 31 (.bipush 60) (33) := ri_of (by decide +kernel) rfl
theorem wi_369_33 : ri (rt_P sc fm) 369 33 (.if_icmp .eq 39) (36) := ri_of (by decide +kernel) rfl
theorem wi_369_36 : ri (rt_P sc fm) 369 36 (.iload_n 0) (37) := ri_of (by decide +kernel) rfl
theorem wi_369_37 : ri (rt_P sc fm) 369 37 (.bipush 40) (39) := ri_of (by decide +kernel) rfl
theorem wi_369_39 : ri (rt_P sc fm) 369 39 (.if_icmp .eq 33) (42) := ri_of (by decide +kernel) rfl
theorem wi_369_42 : ri (rt_P sc fm) 369 42 (.iload_n 0) (43) := ri_of (by decide +kernel) rfl
theorem wi_369_43 : ri (rt_P sc fm) 369 43 (.bipush 41) (45) := ri_of (by decide +kernel) rfl
theorem wi_369_45 : ri (rt_P sc fm) 369 45 (.if_icmp .eq 27) (48) := ri_of (by decide +kernel) rfl
theorem wi_369_48 : ri (rt_P sc fm) 369 48 (.iload_n 0) (49) := ri_of (by decide +kernel) rfl
theorem wi_369_49 : ri (rt_P sc fm) 369 49 (.bipush 123) (51) := ri_of (by decide +kernel) rfl
theorem wi_369_51 : ri (rt_P sc fm) 369 51 (.if_icmp .eq 21) (54) := ri_of (by decide +kernel) rfl
theorem wi_369_54 : ri (rt_P sc fm) 369 54 (.iload_n 0) (55) := ri_of (by decide +kernel) rfl
theorem wi_369_55 : ri (rt_P sc fm) 369 55 (.bipush 125) (57) := ri_of (by decide +kernel) rfl
theorem wi_369_57 : ri (rt_P sc fm) 369 57 (.if_icmp .eq 15) (60) := ri_of (by decide +kernel) rfl
theorem wi_369_6 : ri (rt_P sc fm) 369 6 (.iload_n 0) (7) := ri_of (by decide +kernel) rfl
theorem wi_369_60 : ri (rt_P sc fm) 369 60 (.iload_n 0) (61) := ri_of (by decide +kernel) rfl
theorem wi_369_61 : ri (rt_P sc fm) 369 61 (.bipush 64) (63) := ri_of (by decide +kernel) rfl
theorem wi_369_63 : ri (rt_P sc fm) 369 63 (.if_icmp .eq 9) (66) := ri_of (by decide +kernel) rfl
theorem wi_369_66 : ri (rt_P sc fm) 369 66 (.iload_n 0) (67) := ri_of (by decide +kernel) rfl
theorem wi_369_67 : ri (rt_P sc fm) 369 67 (.bipush 45) (69) := ri_of (by decide +kernel) rfl
theorem wi_369_69 : ri (rt_P sc fm) 369 69 (.if_icmp .ne 7) (72) := ri_of (by decide +kernel) rfl
theorem wi_369_7 : ri (rt_P sc fm) 369 7 (.bipush 59) (9) := ri_of (by decide +kernel) rfl
theorem wi_369_72 : ri (rt_P sc fm) 369 72 (.iconst 1) (73) := ri_of (by decide +kernel) rfl
theorem wi_369_73 : ri (rt_P sc fm) 369 73 (.goto 4) (76) := ri_of (by decide +kernel) rfl
theorem wi_369_76 : ri (rt_P sc fm) 369 76 (.iconst 0) (77) := ri_of (by decide +kernel) rfl
theorem wi_369_77 : ri (rt_P sc fm) 369 77 (.ireturn) (78) := ri_of (by decide +kernel) rfl
theorem wi_369_9 : ri (rt_P sc fm) 369 9 (.if_icmp .eq 63) (12) := ri_of (by decide +kernel) rfl
theorem wr_369 : rx_rt (rt_P sc fm) 369 = (some FieldType.boolean) := (by decide +kernel : rt_rt 369 = (some FieldType.boolean))
/-- MarkHouseModel.isSign(I)Z -/
def d_369 (n : Nat) (a0 : Int32) : Option (Int32) :=
  jn (fun p1 : Int32 =>
    if nb p1 then
    some p1
    else none)
  (fun j77 =>
  jn (fun p3 : Unit =>
    j77 1)
  (fun j72 =>
  if a0 = 58 then
    j72 ()
  else
    if a0 = 59 then
      j72 ()
    else
      if a0 = 44 then
        j72 ()
      else
        if a0 = 46 then
          j72 ()
        else
          if a0 = 61 then
            j72 ()
          else
            if a0 = 60 then
              j72 ()
            else
              if a0 = 40 then
                j72 ()
              else
                if a0 = 41 then
                  j72 ()
                else
                  if a0 = 123 then
                    j72 ()
                  else
                    if a0 = 125 then
                      j72 ()
                    else
                      if a0 = 64 then
                        j72 ()
                      else
                        if a0 = 45 then
                          j72 ()
                        else
                          j77 0))
set_option maxRecDepth 100000 in
set_option maxHeartbeats 4000000 in
theorem sp_369 {F Lo n : Nat} {a0 : Int32} {L : List va_E} {K : Int32 → Prop} {Q : ((Option Value) ⊕ String) → List va_E → Prop} (hF : 0 ≤ F) (hLo : 0 ≤ Lo)  (h : wp (d_369 n a0) K) (hQ : ∀ r, K r → Q (.inl (some (.int r))) L) : rs (rt_P sc fm) 369 F Lo 0 [(0, .int a0)] [] L Q := by
  unfold d_369 at h
  obtain ⟨lv, elv⟩ : ∃ lv : rx_L, lv = [(0, .int a0)] := ⟨_, rfl⟩
  rw [← elv]
  have l0 : rx_ld lv 0 = some (.int a0) := by rw [elv]; rfl
  refine rs_ildn wi_369_0 l0 ?_
  refine rs_pure wi_369_1 rfl ?_
  refine rs_topi (v := 58) (by decide) ?_
  refine wp_jn (B := fun p1 : Int32 => ∀ lv, rs (rt_P sc fm) 369 F Lo 77 lv [.int p1] L Q) h (fun p1 h lv => ?_) (fun j77 hj77 h => ?_)
  ·
    obtain ⟨g2, h⟩ := wp_gd h
    exact rs_iret wi_369_77 wr_369 (nb_n g2) (hQ p1 h)
  refine wp_jn (B := fun p3 : Unit => ∀ lv, rs (rt_P sc fm) 369 F Lo 72 lv [] L Q) h (fun p3 h lv => ?_) (fun j72 hj72 h => ?_)
  ·
    refine rs_pure wi_369_72 rfl ?_
    refine rs_topi (v := 1) (by decide) ?_
    refine rs_goto (tg := 77) wi_369_73 ⟨by decide, by decide⟩ ?_
    exact hj77 _ h _
  refine rs_iceq (tg := 72) wi_369_3 ⟨by decide, by decide⟩ (fun q => ?_) (fun q => ?_)
  ·
    have h := wp_pos h q
    exact hj72 _ h _
  ·
    have h := wp_neg h q
    refine rs_ildn wi_369_6 l0 ?_
    refine rs_pure wi_369_7 rfl ?_
    refine rs_topi (v := 59) (by decide) ?_
    refine rs_iceq (tg := 72) wi_369_9 ⟨by decide, by decide⟩ (fun q => ?_) (fun q => ?_)
    ·
      have h := wp_pos h q
      exact hj72 _ h _
    ·
      have h := wp_neg h q
      refine rs_ildn wi_369_12 l0 ?_
      refine rs_pure wi_369_13 rfl ?_
      refine rs_topi (v := 44) (by decide) ?_
      refine rs_iceq (tg := 72) wi_369_15 ⟨by decide, by decide⟩ (fun q => ?_) (fun q => ?_)
      ·
        have h := wp_pos h q
        exact hj72 _ h _
      ·
        have h := wp_neg h q
        refine rs_ildn wi_369_18 l0 ?_
        refine rs_pure wi_369_19 rfl ?_
        refine rs_topi (v := 46) (by decide) ?_
        refine rs_iceq (tg := 72) wi_369_21 ⟨by decide, by decide⟩ (fun q => ?_) (fun q => ?_)
        ·
          have h := wp_pos h q
          exact hj72 _ h _
        ·
          have h := wp_neg h q
          refine rs_ildn wi_369_24 l0 ?_
          refine rs_pure wi_369_25 rfl ?_
          refine rs_topi (v := 61) (by decide) ?_
          refine rs_iceq (tg := 72) wi_369_27 ⟨by decide, by decide⟩ (fun q => ?_) (fun q => ?_)
          ·
            have h := wp_pos h q
            exact hj72 _ h _
          ·
            have h := wp_neg h q
            refine rs_ildn wi_369_30 l0 ?_
            refine rs_pure wi_369_31 rfl ?_
            refine rs_topi (v := 60) (by decide) ?_
            refine rs_iceq (tg := 72) wi_369_33 ⟨by decide, by decide⟩ (fun q => ?_) (fun q => ?_)
            ·
              have h := wp_pos h q
              exact hj72 _ h _
            ·
              have h := wp_neg h q
              refine rs_ildn wi_369_36 l0 ?_
              refine rs_pure wi_369_37 rfl ?_
              refine rs_topi (v := 40) (by decide) ?_
              refine rs_iceq (tg := 72) wi_369_39 ⟨by decide, by decide⟩ (fun q => ?_) (fun q => ?_)
              ·
                have h := wp_pos h q
                exact hj72 _ h _
              ·
                have h := wp_neg h q
                refine rs_ildn wi_369_42 l0 ?_
                refine rs_pure wi_369_43 rfl ?_
                refine rs_topi (v := 41) (by decide) ?_
                refine rs_iceq (tg := 72) wi_369_45 ⟨by decide, by decide⟩ (fun q => ?_) (fun q => ?_)
                ·
                  have h := wp_pos h q
                  exact hj72 _ h _
                ·
                  have h := wp_neg h q
                  refine rs_ildn wi_369_48 l0 ?_
                  refine rs_pure wi_369_49 rfl ?_
                  refine rs_topi (v := 123) (by decide) ?_
                  refine rs_iceq (tg := 72) wi_369_51 ⟨by decide, by decide⟩ (fun q => ?_) (fun q => ?_)
                  ·
                    have h := wp_pos h q
                    exact hj72 _ h _
                  ·
                    have h := wp_neg h q
                    refine rs_ildn wi_369_54 l0 ?_
                    refine rs_pure wi_369_55 rfl ?_
                    refine rs_topi (v := 125) (by decide) ?_
                    refine rs_iceq (tg := 72) wi_369_57 ⟨by decide, by decide⟩ (fun q => ?_) (fun q => ?_)
                    ·
                      have h := wp_pos h q
                      exact hj72 _ h _
                    ·
                      have h := wp_neg h q
                      refine rs_ildn wi_369_60 l0 ?_
                      refine rs_pure wi_369_61 rfl ?_
                      refine rs_topi (v := 64) (by decide) ?_
                      refine rs_iceq (tg := 72) wi_369_63 ⟨by decide, by decide⟩ (fun q => ?_) (fun q => ?_)
                      ·
                        have h := wp_pos h q
                        exact hj72 _ h _
                      ·
                        have h := wp_neg h q
                        refine rs_ildn wi_369_66 l0 ?_
                        refine rs_pure wi_369_67 rfl ?_
                        refine rs_topi (v := 45) (by decide) ?_
                        refine rs_icne (tg := 76) wi_369_69 ⟨by decide, by decide⟩ (fun q => ?_) (fun q => ?_)
                        ·
                          have h := wp_neg h q
                          refine rs_pure wi_369_76 rfl ?_
                          refine rs_topi (v := 0) (by decide) ?_
                          exact hj77 _ h _
                        ·
                          have h := wp_pos h q
                          exact hj72 _ h _
theorem wa_15_371 : rz_cn 15 (rx_yn (rt_P sc fm) 371).cls = true := (by decide +kernel : rz_cn 15 (rt_yn 371).cls = true)
theorem wa_15_97 : rz_cn 15 (rx_yn (rt_P sc fm) 97).cls = true := (by decide +kernel : rz_cn 15 (rt_yn 97).cls = true)
theorem wa_15_98 : rz_cn 15 (rx_yn (rt_P sc fm) 98).cls = true := (by decide +kernel : rz_cn 15 (rt_yn 98).cls = true)
theorem wc_99_425 : rx_ct (rt_P sc fm) 99 425 = some (1, 367, 1) := (by decide +kernel : rt_ct 99 425 = some (1, 367, 1))
theorem wc_99_429 : rx_ct (rt_P sc fm) 99 429 = some (1, 368, 1) := (by decide +kernel : rt_ct 99 429 = some (1, 368, 1))
theorem wc_99_432 : rx_ct (rt_P sc fm) 99 432 = some (0, 97, 2) := (by decide +kernel : rt_ct 99 432 = some (0, 97, 2))
theorem wc_99_436 : rx_ct (rt_P sc fm) 99 436 = some (0, 371, 1) := (by decide +kernel : rt_ct 99 436 = some (0, 371, 1))
theorem wc_99_440 : rx_ct (rt_P sc fm) 99 440 = some (0, 98, 3) := (by decide +kernel : rt_ct 99 440 = some (0, 98, 3))
theorem wc_99_444 : rx_ct (rt_P sc fm) 99 444 = some (1, 369, 1) := (by decide +kernel : rt_ct 99 444 = some (1, 369, 1))
theorem wf_99_409 : rx_ft (rt_P sc fm) 99 409 = some (15, 13) := (by decide +kernel : rt_ft 99 409 = some (15, 13))
theorem wf_99_9 : rx_ft (rt_P sc fm) 99 9 = some (15, 1) := (by decide +kernel : rt_ft 99 9 = some (15, 1))
theorem wi_99_0 : ri (rt_P sc fm) 99 0 (.aload_n 0) (1) := ri_of (by decide +kernel) rfl
theorem wi_99_1 : ri (rt_P sc fm) 99 1 (.iconst 0) (2) := ri_of (by decide +kernel) rfl
theorem wi_99_101 : ri (rt_P sc fm) 99 101 (.iinc 2 1) (104) := ri_of (by decide +kernel) rfl
theorem wi_99_104 : ri (rt_P sc fm) 99 104 (.goto (-47)) (107) := ri_of (by decide +kernel) rfl
theorem wi_99_107 : ri (rt_P sc fm) 99 107 (.iload_n 2) (108) := ri_of (by decide +kernel) rfl
theorem wi_99_108 : ri (rt_P sc fm) 99 108 (.iload 4) (110) := ri_of (by decide +kernel) rfl
theorem wi_99_110 : ri (rt_P sc fm) 99 110 (.isub) (111) := ri_of (by decide +kernel) rfl
theorem wi_99_111 : ri (rt_P sc fm) 99 111 (.bipush 8) (113) := ri_of (by decide +kernel) rfl
theorem wi_99_113 : ri (rt_P sc fm) 99 113 (.if_icmp .le 10) (116) := ri_of (by decide +kernel) rfl
theorem wi_99_116 : ri (rt_P sc fm) 99 116 (.aload_n 0) (117) := ri_of (by decide +kernel) rfl
theorem wi_99_117 : ri (rt_P sc fm) 99 117 (.iconst 1) (118) := ri_of (by decide +kernel) rfl
theorem wi_99_118 : ri (rt_P sc fm) 99 118 (.iload 4) (120) := ri_of (by decide +kernel) rfl
theorem wi_99_12 : ri (rt_P sc fm) 99 12 (.aload_n 0) (13) := ri_of (by decide +kernel) rfl
theorem wi_99_120 : ri (rt_P sc fm) 99 120 (.invokevirtual 432) (123) := ri_of (by decide +kernel) rfl
theorem wi_99_123 : ri (rt_P sc fm) 99 123 (.iload_n 2) (124) := ri_of (by decide +kernel) rfl
theorem wi_99_124 : ri (rt_P sc fm) 99 124 (.iload 4) (126) := ri_of (by decide +kernel) rfl
theorem wi_99_126 : ri (rt_P sc fm) 99 126 (.isub) (127) := ri_of (by decide +kernel) rfl
theorem wi_99_127 : ri (rt_P sc fm) 99 127 (.bipush 8) (129) := ri_of (by decide +kernel) rfl
theorem wi_99_129 : ri (rt_P sc fm) 99 129 (.if_icmp .le 7) (132) := ri_of (by decide +kernel) rfl
theorem wi_99_13 : ri (rt_P sc fm) 99 13 (.getfield 409) (16) := ri_of (by decide +kernel) rfl
theorem wi_99_132 : ri (rt_P sc fm) 99 132 (.iconst (-1)) (133) := ri_of (by decide +kernel) rfl
theorem wi_99_133 : ri (rt_P sc fm) 99 133 (.goto 9) (136) := ri_of (by decide +kernel) rfl
theorem wi_99_136 : ri (rt_P sc fm) 99 136 (.aload_n 0) (137) := ri_of (by decide +kernel) rfl
theorem wi_99_137 : ri (rt_P sc fm) 99 137 (.lload 5) (139) := ri_of (by decide +kernel) rfl
theorem wi_99_139 : ri (rt_P sc fm) 99 139 (.invokevirtual 436) (142) := ri_of (by decide +kernel) rfl
theorem wi_99_142 : ri (rt_P sc fm) 99 142 (.istore 7) (144) := ri_of (by decide +kernel) rfl
theorem wi_99_144 : ri (rt_P sc fm) 99 144 (.iload 7) (146) := ri_of (by decide +kernel) rfl
theorem wi_99_146 : ri (rt_P sc fm) 99 146 (.ifCond .lt 16) (149) := ri_of (by decide +kernel) rfl
theorem wi_99_149 : ri (rt_P sc fm) 99 149 (.aload_n 0) (150) := ri_of (by decide +kernel) rfl
theorem wi_99_150 : ri (rt_P sc fm) 99 150 (.iconst 4) (151) := ri_of (by decide +kernel) rfl
theorem wi_99_151 : ri (rt_P sc fm) 99 151 (.iload 4) (153) := ri_of (by decide +kernel) rfl
theorem wi_99_153 : ri (rt_P sc fm) 99 153 (.iload 7) (155) := ri_of (by decide +kernel) rfl
theorem wi_99_155 : ri (rt_P sc fm) 99 155 (.i2l) (156) := ri_of (by decide +kernel) rfl
theorem wi_99_156 : ri (rt_P sc fm) 99 156 (.invokevirtual 440) (159) := ri_of (by decide +kernel) rfl
theorem wi_99_159 : ri (rt_P sc fm) 99 159 (.goto 12) (162) := ri_of (by decide +kernel) rfl
theorem wi_99_16 : ri (rt_P sc fm) 99 16 (.ifCond .ne 403) (19) := ri_of (by decide +kernel) rfl
theorem wi_99_162 : ri (rt_P sc fm) 99 162 (.aload_n 0) (163) := ri_of (by decide +kernel) rfl
theorem wi_99_163 : ri (rt_P sc fm) 99 163 (.iconst 0) (164) := ri_of (by decide +kernel) rfl
theorem wi_99_164 : ri (rt_P sc fm) 99 164 (.iload 4) (166) := ri_of (by decide +kernel) rfl
theorem wi_99_166 : ri (rt_P sc fm) 99 166 (.lload 5) (168) := ri_of (by decide +kernel) rfl
theorem wi_99_168 : ri (rt_P sc fm) 99 168 (.invokevirtual 440) (171) := ri_of (by decide +kernel) rfl
theorem wi_99_171 : ri (rt_P sc fm) 99 171 (.goto 245) (174) := ri_of (by decide +kernel) rfl
theorem wi_99_174 : ri (rt_P sc fm) 99 174 (.iload_n 3) (175) := ri_of (by decide +kernel) rfl
theorem wi_99_175 : ri (rt_P sc fm) 99 175 (.invokestatic 429) (178) := ri_of (by decide +kernel) rfl
theorem wi_99_178 : ri (rt_P sc fm) 99 178 (.ifCond .eq 91) (181) := ri_of (by decide +kernel) rfl
theorem wi_99_181 : ri (rt_P sc fm) 99 181 (.lconst 0) (182) := ri_of (by decide +kernel) rfl
theorem wi_99_182 : ri (rt_P sc fm) 99 182 (.lstore 5) (184) := ri_of (by decide +kernel) rfl
theorem wi_99_184 : ri (rt_P sc fm) 99 184 (.iload_n 2) (185) := ri_of (by decide +kernel) rfl
theorem wi_99_185 : ri (rt_P sc fm) 99 185 (.iload_n 1) (186) := ri_of (by decide +kernel) rfl
theorem wi_99_186 : ri (rt_P sc fm) 99 186 (.if_icmp .ge 55) (189) := ri_of (by decide +kernel) rfl
theorem wi_99_189 : ri (rt_P sc fm) 99 189 (.aload_n 0) (190) := ri_of (by decide +kernel) rfl
theorem wi_99_19 : ri (rt_P sc fm) 99 19 (.aload_n 0) (20) := ri_of (by decide +kernel) rfl
theorem wi_99_190 : ri (rt_P sc fm) 99 190 (.getfield 9) (193) := ri_of (by decide +kernel) rfl
theorem wi_99_193 : ri (rt_P sc fm) 99 193 (.iload_n 2) (194) := ri_of (by decide +kernel) rfl
theorem wi_99_194 : ri (rt_P sc fm) 99 194 (.iaload) (195) := ri_of (by decide +kernel) rfl
theorem wi_99_195 : ri (rt_P sc fm) 99 195 (.invokestatic 429) (198) := ri_of (by decide +kernel) rfl
theorem wi_99_198 : ri (rt_P sc fm) 99 198 (.ifCond .eq 43) (201) := ri_of (by decide +kernel) rfl
theorem wi_99_2 : ri (rt_P sc fm) 99 2 (.putfield 418) (5) := ri_of (by decide +kernel) rfl
theorem wi_99_20 : ri (rt_P sc fm) 99 20 (.getfield 9) (23) := ri_of (by decide +kernel) rfl
theorem wi_99_201 : ri (rt_P sc fm) 99 201 (.iload_n 2) (202) := ri_of (by decide +kernel) rfl
theorem wi_99_202 : ri (rt_P sc fm) 99 202 (.iload 4) (204) := ri_of (by decide +kernel) rfl
theorem wi_99_204 : ri (rt_P sc fm) 99 204 (.isub) (205) := ri_of (by decide +kernel) rfl
theorem wi_99_205 : ri (rt_P sc fm) 99 205 (.bipush 9) (207) := ri_of (by decide +kernel) rfl
theorem wi_99_207 : ri (rt_P sc fm) 99 207 (.if_icmp .ge 24) (210) := ri_of (by decide +kernel) rfl
theorem wi_99_210 : ri (rt_P sc fm) 99 210 (.ldc2_w 374) (213) := ri_of (by decide +kernel) rfl
theorem wi_99_213 : ri (rt_P sc fm) 99 213 (.lload 5) (215) := ri_of (by decide +kernel) rfl
theorem wi_99_215 : ri (rt_P sc fm) 99 215 (.lmul) (216) := ri_of (by decide +kernel) rfl
theorem wi_99_216 : ri (rt_P sc fm) 99 216 (.aload_n 0) (217) := ri_of (by decide +kernel) rfl
theorem wi_99_217 : ri (rt_P sc fm) 99 217 (.getfield 9) (220) := ri_of (by decide +kernel) rfl
theorem wi_99_220 : ri (rt_P sc fm) 99 220 (.iload_n 2) (221) := ri_of (by decide +kernel) rfl
theorem wi_99_221 : ri (rt_P sc fm) 99 221 (.iaload) (222) := ri_of (by decide +kernel) rfl
theorem wi_99_222 : ri (rt_P sc fm) 99 222 (.i2l) (223) := ri_of (by decide +kernel) rfl
theorem wi_99_223 : ri (rt_P sc fm) 99 223 (.ladd) (224) := ri_of (by decide +kernel) rfl
theorem wi_99_224 : ri (rt_P sc fm) 99 224 (.ldc2_w 376) (227) := ri_of (by decide +kernel) rfl
theorem wi_99_227 : ri (rt_P sc fm) 99 227 (.lsub) (228) := ri_of (by decide +kernel) rfl
theorem wi_99_228 : ri (rt_P sc fm) 99 228 (.goto 5) (231) := ri_of (by decide +kernel) rfl
theorem wi_99_23 : ri (rt_P sc fm) 99 23 (.iload_n 2) (24) := ri_of (by decide +kernel) rfl
theorem wi_99_231 : ri (rt_P sc fm) 99 231 (.lload 5) (233) := ri_of (by decide +kernel) rfl
theorem wi_99_233 : ri (rt_P sc fm) 99 233 (.lstore 5) (235) := ri_of (by decide +kernel) rfl
theorem wi_99_235 : ri (rt_P sc fm) 99 235 (.iinc 2 1) (238) := ri_of (by decide +kernel) rfl
theorem wi_99_238 : ri (rt_P sc fm) 99 238 (.goto (-54)) (241) := ri_of (by decide +kernel) rfl
theorem wi_99_24 : ri (rt_P sc fm) 99 24 (.iaload) (25) := ri_of (by decide +kernel) rfl
theorem wi_99_241 : ri (rt_P sc fm) 99 241 (.iload_n 2) (242) := ri_of (by decide +kernel) rfl
theorem wi_99_242 : ri (rt_P sc fm) 99 242 (.iload 4) (244) := ri_of (by decide +kernel) rfl
theorem wi_99_244 : ri (rt_P sc fm) 99 244 (.isub) (245) := ri_of (by decide +kernel) rfl
theorem wi_99_245 : ri (rt_P sc fm) 99 245 (.bipush 9) (247) := ri_of (by decide +kernel) rfl
theorem wi_99_247 : ri (rt_P sc fm) 99 247 (.if_icmp .le 10) (250) := ri_of (by decide +kernel) rfl
theorem wi_99_25 : ri (rt_P sc fm) 99 25 (.istore_n 3) (26) := ri_of (by decide +kernel) rfl
theorem wi_99_250 : ri (rt_P sc fm) 99 250 (.aload_n 0) (251) := ri_of (by decide +kernel) rfl
theorem wi_99_251 : ri (rt_P sc fm) 99 251 (.iconst 1) (252) := ri_of (by decide +kernel) rfl
theorem wi_99_252 : ri (rt_P sc fm) 99 252 (.iload 4) (254) := ri_of (by decide +kernel) rfl
theorem wi_99_254 : ri (rt_P sc fm) 99 254 (.invokevirtual 432) (257) := ri_of (by decide +kernel) rfl
theorem wi_99_257 : ri (rt_P sc fm) 99 257 (.aload_n 0) (258) := ri_of (by decide +kernel) rfl
theorem wi_99_258 : ri (rt_P sc fm) 99 258 (.iconst 1) (259) := ri_of (by decide +kernel) rfl
theorem wi_99_259 : ri (rt_P sc fm) 99 259 (.iload 4) (261) := ri_of (by decide +kernel) rfl
theorem wi_99_26 : ri (rt_P sc fm) 99 26 (.iload_n 2) (27) := ri_of (by decide +kernel) rfl
theorem wi_99_261 : ri (rt_P sc fm) 99 261 (.lload 5) (263) := ri_of (by decide +kernel) rfl
theorem wi_99_263 : ri (rt_P sc fm) 99 263 (.invokevirtual 440) (266) := ri_of (by decide +kernel) rfl
theorem wi_99_266 : ri (rt_P sc fm) 99 266 (.goto 150) (269) := ri_of (by decide +kernel) rfl
theorem wi_99_269 : ri (rt_P sc fm) 99 269 (.iload_n 3) (270) := ri_of (by decide +kernel) rfl
theorem wi_99_27 : ri (rt_P sc fm) 99 27 (.istore 4) (29) := ri_of (by decide +kernel) rfl
theorem wi_99_270 : ri (rt_P sc fm) 99 270 (.bipush 39) (272) := ri_of (by decide +kernel) rfl
theorem wi_99_272 : ri (rt_P sc fm) 99 272 (.if_icmp .ne 115) (275) := ri_of (by decide +kernel) rfl
theorem wi_99_275 : ri (rt_P sc fm) 99 275 (.lconst 0) (276) := ri_of (by decide +kernel) rfl
theorem wi_99_276 : ri (rt_P sc fm) 99 276 (.lstore 5) (278) := ri_of (by decide +kernel) rfl
theorem wi_99_278 : ri (rt_P sc fm) 99 278 (.iinc 2 1) (281) := ri_of (by decide +kernel) rfl
theorem wi_99_281 : ri (rt_P sc fm) 99 281 (.iload_n 2) (282) := ri_of (by decide +kernel) rfl
theorem wi_99_282 : ri (rt_P sc fm) 99 282 (.iload_n 1) (283) := ri_of (by decide +kernel) rfl
theorem wi_99_283 : ri (rt_P sc fm) 99 283 (.if_icmp .ge 66) (286) := ri_of (by decide +kernel) rfl
theorem wi_99_286 : ri (rt_P sc fm) 99 286 (.iload_n 2) (287) := ri_of (by decide +kernel) rfl
theorem wi_99_287 : ri (rt_P sc fm) 99 287 (.iload 4) (289) := ri_of (by decide +kernel) rfl
theorem wi_99_289 : ri (rt_P sc fm) 99 289 (.isub) (290) := ri_of (by decide +kernel) rfl
theorem wi_99_29 : ri (rt_P sc fm) 99 29 (.iload_n 3) (30) := ri_of (by decide +kernel) rfl
theorem wi_99_290 : ri (rt_P sc fm) 99 290 (.bipush 8) (292) := ri_of (by decide +kernel) rfl
theorem wi_99_292 : ri (rt_P sc fm) 99 292 (.if_icmp .gt 57) (295) := ri_of (by decide +kernel) rfl
theorem wi_99_295 : ri (rt_P sc fm) 99 295 (.aload_n 0) (296) := ri_of (by decide +kernel) rfl
theorem wi_99_296 : ri (rt_P sc fm) 99 296 (.getfield 9) (299) := ri_of (by decide +kernel) rfl
theorem wi_99_299 : ri (rt_P sc fm) 99 299 (.iload_n 2) (300) := ri_of (by decide +kernel) rfl
theorem wi_99_30 : ri (rt_P sc fm) 99 30 (.bipush 32) (32) := ri_of (by decide +kernel) rfl
theorem wi_99_300 : ri (rt_P sc fm) 99 300 (.iaload) (301) := ri_of (by decide +kernel) rfl
theorem wi_99_301 : ri (rt_P sc fm) 99 301 (.bipush 32) (303) := ri_of (by decide +kernel) rfl
theorem wi_99_303 : ri (rt_P sc fm) 99 303 (.if_icmp .lt 46) (306) := ri_of (by decide +kernel) rfl
theorem wi_99_306 : ri (rt_P sc fm) 99 306 (.aload_n 0) (307) := ri_of (by decide +kernel) rfl
theorem wi_99_307 : ri (rt_P sc fm) 99 307 (.getfield 9) (310) := ri_of (by decide +kernel) rfl
theorem wi_99_310 : ri (rt_P sc fm) 99 310 (.iload_n 2) (311) := ri_of (by decide +kernel) rfl
theorem wi_99_311 : ri (rt_P sc fm) 99 311 (.iaload) (312) := ri_of (by decide +kernel) rfl
theorem wi_99_312 : ri (rt_P sc fm) 99 312 (.bipush 126) (314) := ri_of (by decide +kernel) rfl
theorem wi_99_314 : ri (rt_P sc fm) 99 314 (.if_icmp .gt 35) (317) := ri_of (by decide +kernel) rfl
theorem wi_99_317 : ri (rt_P sc fm) 99 317 (.aload_n 0) (318) := ri_of (by decide +kernel) rfl
theorem wi_99_318 : ri (rt_P sc fm) 99 318 (.getfield 9) (321) := ri_of (by decide +kernel) rfl
theorem wi_99_32 : ri (rt_P sc fm) 99 32 (.if_icmp .eq 9) (35) := ri_of (by decide +kernel) rfl
theorem wi_99_321 : ri (rt_P sc fm) 99 321 (.iload_n 2) (322) := ri_of (by decide +kernel) rfl
theorem wi_99_322 : ri (rt_P sc fm) 99 322 (.iaload) (323) := ri_of (by decide +kernel) rfl
theorem wi_99_323 : ri (rt_P sc fm) 99 323 (.bipush 39) (325) := ri_of (by decide +kernel) rfl
theorem wi_99_325 : ri (rt_P sc fm) 99 325 (.if_icmp .eq 24) (328) := ri_of (by decide +kernel) rfl
theorem wi_99_328 : ri (rt_P sc fm) 99 328 (.lload 5) (330) := ri_of (by decide +kernel) rfl
theorem wi_99_330 : ri (rt_P sc fm) 99 330 (.bipush 8) (332) := ri_of (by decide +kernel) rfl
theorem wi_99_332 : ri (rt_P sc fm) 99 332 (.lshl) (333) := ri_of (by decide +kernel) rfl
theorem wi_99_333 : ri (rt_P sc fm) 99 333 (.aload_n 0) (334) := ri_of (by decide +kernel) rfl
theorem wi_99_334 : ri (rt_P sc fm) 99 334 (.getfield 9) (337) := ri_of (by decide +kernel) rfl
theorem wi_99_337 : ri (rt_P sc fm) 99 337 (.iload_n 2) (338) := ri_of (by decide +kernel) rfl
theorem wi_99_338 : ri (rt_P sc fm) 99 338 (.iaload) (339) := ri_of (by decide +kernel) rfl
theorem wi_99_339 : ri (rt_P sc fm) 99 339 (.i2l) (340) := ri_of (by decide +kernel) rfl
theorem wi_99_340 : ri (rt_P sc fm) 99 340 (.lor) (341) := ri_of (by decide +kernel) rfl
theorem wi_99_341 : ri (rt_P sc fm) 99 341 (.lstore 5) (343) := ri_of (by decide +kernel) rfl
theorem wi_99_343 : ri (rt_P sc fm) 99 343 (.iinc 2 1) (346) := ri_of (by decide +kernel) rfl
theorem wi_99_346 : ri (rt_P sc fm) 99 346 (.goto (-65)) (349) := ri_of (by decide +kernel) rfl
theorem wi_99_349 : ri (rt_P sc fm) 99 349 (.iload_n 2) (350) := ri_of (by decide +kernel) rfl
theorem wi_99_35 : ri (rt_P sc fm) 99 35 (.iload_n 3) (36) := ri_of (by decide +kernel) rfl
theorem wi_99_350 : ri (rt_P sc fm) 99 350 (.iload_n 1) (351) := ri_of (by decide +kernel) rfl
theorem wi_99_351 : ri (rt_P sc fm) 99 351 (.if_icmp .ge 14) (354) := ri_of (by decide +kernel) rfl
theorem wi_99_354 : ri (rt_P sc fm) 99 354 (.aload_n 0) (355) := ri_of (by decide +kernel) rfl
theorem wi_99_355 : ri (rt_P sc fm) 99 355 (.getfield 9) (358) := ri_of (by decide +kernel) rfl
theorem wi_99_358 : ri (rt_P sc fm) 99 358 (.iload_n 2) (359) := ri_of (by decide +kernel) rfl
theorem wi_99_359 : ri (rt_P sc fm) 99 359 (.iaload) (360) := ri_of (by decide +kernel) rfl
theorem wi_99_36 : ri (rt_P sc fm) 99 36 (.bipush 10) (38) := ri_of (by decide +kernel) rfl
theorem wi_99_360 : ri (rt_P sc fm) 99 360 (.bipush 39) (362) := ri_of (by decide +kernel) rfl
theorem wi_99_362 : ri (rt_P sc fm) 99 362 (.if_icmp .eq 10) (365) := ri_of (by decide +kernel) rfl
theorem wi_99_365 : ri (rt_P sc fm) 99 365 (.aload_n 0) (366) := ri_of (by decide +kernel) rfl
theorem wi_99_366 : ri (rt_P sc fm) 99 366 (.iconst 1) (367) := ri_of (by decide +kernel) rfl
theorem wi_99_367 : ri (rt_P sc fm) 99 367 (.iload 4) (369) := ri_of (by decide +kernel) rfl
theorem wi_99_369 : ri (rt_P sc fm) 99 369 (.invokevirtual 432) (372) := ri_of (by decide +kernel) rfl
theorem wi_99_372 : ri (rt_P sc fm) 99 372 (.iinc 2 1) (375) := ri_of (by decide +kernel) rfl
theorem wi_99_375 : ri (rt_P sc fm) 99 375 (.aload_n 0) (376) := ri_of (by decide +kernel) rfl
theorem wi_99_376 : ri (rt_P sc fm) 99 376 (.iconst 2) (377) := ri_of (by decide +kernel) rfl
theorem wi_99_377 : ri (rt_P sc fm) 99 377 (.iload 4) (379) := ri_of (by decide +kernel) rfl
theorem wi_99_379 : ri (rt_P sc fm) 99 379 (.lload 5) (381) := ri_of (by decide +kernel) rfl
theorem wi_99_38 : ri (rt_P sc fm) 99 38 (.if_icmp .ne 9) (41) := ri_of (by decide +kernel) rfl
theorem wi_99_381 : ri (rt_P sc fm) 99 381 (.invokevirtual 440) (384) := ri_of (by decide +kernel) rfl
theorem wi_99_384 : ri (rt_P sc fm) 99 384 (.goto 32) (387) := ri_of (by decide +kernel) rfl
theorem wi_99_387 : ri (rt_P sc fm) 99 387 (.iload_n 3) (388) := ri_of (by decide +kernel) rfl
theorem wi_99_388 : ri (rt_P sc fm) 99 388 (.invokestatic 444) (391) := ri_of (by decide +kernel) rfl
theorem wi_99_391 : ri (rt_P sc fm) 99 391 (.ifCond .eq 18) (394) := ri_of (by decide +kernel) rfl
theorem wi_99_394 : ri (rt_P sc fm) 99 394 (.aload_n 0) (395) := ri_of (by decide +kernel) rfl
theorem wi_99_395 : ri (rt_P sc fm) 99 395 (.iconst 3) (396) := ri_of (by decide +kernel) rfl
theorem wi_99_396 : ri (rt_P sc fm) 99 396 (.iload 4) (398) := ri_of (by decide +kernel) rfl
theorem wi_99_398 : ri (rt_P sc fm) 99 398 (.iload_n 3) (399) := ri_of (by decide +kernel) rfl
theorem wi_99_399 : ri (rt_P sc fm) 99 399 (.i2l) (400) := ri_of (by decide +kernel) rfl
theorem wi_99_400 : ri (rt_P sc fm) 99 400 (.invokevirtual 440) (403) := ri_of (by decide +kernel) rfl
theorem wi_99_403 : ri (rt_P sc fm) 99 403 (.iinc 2 1) (406) := ri_of (by decide +kernel) rfl
theorem wi_99_406 : ri (rt_P sc fm) 99 406 (.goto 10) (409) := ri_of (by decide +kernel) rfl
theorem wi_99_409 : ri (rt_P sc fm) 99 409 (.aload_n 0) (410) := ri_of (by decide +kernel) rfl
theorem wi_99_41 : ri (rt_P sc fm) 99 41 (.iinc 2 1) (44) := ri_of (by decide +kernel) rfl
theorem wi_99_410 : ri (rt_P sc fm) 99 410 (.iconst 1) (411) := ri_of (by decide +kernel) rfl
theorem wi_99_411 : ri (rt_P sc fm) 99 411 (.iload 4) (413) := ri_of (by decide +kernel) rfl
theorem wi_99_413 : ri (rt_P sc fm) 99 413 (.invokevirtual 432) (416) := ri_of (by decide +kernel) rfl
theorem wi_99_416 : ri (rt_P sc fm) 99 416 (.goto (-409)) (419) := ri_of (by decide +kernel) rfl
theorem wi_99_419 : ri (rt_P sc fm) 99 419 (.aload_n 0) (420) := ri_of (by decide +kernel) rfl
theorem wi_99_420 : ri (rt_P sc fm) 99 420 (.iconst 5) (421) := ri_of (by decide +kernel) rfl
theorem wi_99_421 : ri (rt_P sc fm) 99 421 (.iload_n 1) (422) := ri_of (by decide +kernel) rfl
theorem wi_99_422 : ri (rt_P sc fm) 99 422 (.lconst 0) (423) := ri_of (by decide +kernel) rfl
theorem wi_99_423 : ri (rt_P sc fm) 99 423 (.invokevirtual 440) (426) := ri_of (by decide +kernel) rfl
theorem wi_99_426 : ri (rt_P sc fm) 99 426 (.return_) (427) := ri_of (by decide +kernel) rfl
theorem wi_99_44 : ri (rt_P sc fm) 99 44 (.goto 372) (47) := ri_of (by decide +kernel) rfl
theorem wi_99_47 : ri (rt_P sc fm) 99 47 (.iload_n 3) (48) := ri_of (by decide +kernel) rfl
theorem wi_99_48 : ri (rt_P sc fm) 99 48 (.invokestatic 425) (51) := ri_of (by decide +kernel) rfl
theorem wi_99_5 : ri (rt_P sc fm) 99 5 (.iconst 0) (6) := ri_of (by decide +kernel) rfl
theorem wi_99_51 : ri (rt_P sc fm) 99 51 (.ifCond .eq 123) (54) := ri_of (by decide +kernel) rfl
theorem wi_99_54 : ri (rt_P sc fm) 99 54 (.lconst 0) (55) := ri_of (by decide +kernel) rfl
theorem wi_99_55 : ri (rt_P sc fm) 99 55 (.lstore 5) (57) := ri_of (by decide +kernel) rfl
theorem wi_99_57 : ri (rt_P sc fm) 99 57 (.iload_n 2) (58) := ri_of (by decide +kernel) rfl
theorem wi_99_58 : ri (rt_P sc fm) 99 58 (.iload_n 1) (59) := ri_of (by decide +kernel) rfl
theorem wi_99_59 : ri (rt_P sc fm) 99 59 (.if_icmp .ge 48) (62) := ri_of (by decide +kernel) rfl
theorem wi_99_6 : ri (rt_P sc fm) 99 6 (.istore_n 2) (7) := ri_of (by decide +kernel) rfl
theorem wi_99_62 : ri (rt_P sc fm) 99 62 (.aload_n 0) (63) := ri_of (by decide +kernel) rfl
theorem wi_99_63 : ri (rt_P sc fm) 99 63 (.getfield 9) (66) := ri_of (by decide +kernel) rfl
theorem wi_99_66 : ri (rt_P sc fm) 99 66 (.iload_n 2) (67) := ri_of (by decide +kernel) rfl
theorem wi_99_67 : ri (rt_P sc fm) 99 67 (.iaload) (68) := ri_of (by decide +kernel) rfl
theorem wi_99_68 : ri (rt_P sc fm) 99 68 (.invokestatic 425) (71) := ri_of (by decide +kernel) rfl
theorem wi_99_7 : ri (rt_P sc fm) 99 7 (.iload_n 2) (8) := ri_of (by decide +kernel) rfl
theorem wi_99_71 : ri (rt_P sc fm) 99 71 (.ifCond .ne 15) (74) := ri_of (by decide +kernel) rfl
theorem wi_99_74 : ri (rt_P sc fm) 99 74 (.aload_n 0) (75) := ri_of (by decide +kernel) rfl
theorem wi_99_75 : ri (rt_P sc fm) 99 75 (.getfield 9) (78) := ri_of (by decide +kernel) rfl
theorem wi_99_78 : ri (rt_P sc fm) 99 78 (.iload_n 2) (79) := ri_of (by decide +kernel) rfl
theorem wi_99_79 : ri (rt_P sc fm) 99 79 (.iaload) (80) := ri_of (by decide +kernel) rfl
theorem wi_99_8 : ri (rt_P sc fm) 99 8 (.iload_n 1) (9) := ri_of (by decide +kernel) rfl
theorem wi_99_80 : ri (rt_P sc fm) 99 80 (.invokestatic 429) (83) := ri_of (by decide +kernel) rfl
theorem wi_99_83 : ri (rt_P sc fm) 99 83 (.ifCond .eq 24) (86) := ri_of (by decide +kernel) rfl
theorem wi_99_86 : ri (rt_P sc fm) 99 86 (.lload 5) (88) := ri_of (by decide +kernel) rfl
theorem wi_99_88 : ri (rt_P sc fm) 99 88 (.bipush 8) (90) := ri_of (by decide +kernel) rfl
theorem wi_99_9 : ri (rt_P sc fm) 99 9 (.if_icmp .ge 410) (12) := ri_of (by decide +kernel) rfl
theorem wi_99_90 : ri (rt_P sc fm) 99 90 (.lshl) (91) := ri_of (by decide +kernel) rfl
theorem wi_99_91 : ri (rt_P sc fm) 99 91 (.aload_n 0) (92) := ri_of (by decide +kernel) rfl
theorem wi_99_92 : ri (rt_P sc fm) 99 92 (.getfield 9) (95) := ri_of (by decide +kernel) rfl
theorem wi_99_95 : ri (rt_P sc fm) 99 95 (.iload_n 2) (96) := ri_of (by decide +kernel) rfl
theorem wi_99_96 : ri (rt_P sc fm) 99 96 (.iaload) (97) := ri_of (by decide +kernel) rfl
theorem wi_99_97 : ri (rt_P sc fm) 99 97 (.i2l) (98) := ri_of (by decide +kernel) rfl
theorem wi_99_98 : ri (rt_P sc fm) 99 98 (.lor) (99) := ri_of (by decide +kernel) rfl
theorem wi_99_99 : ri (rt_P sc fm) 99 99 (.lstore 5) (101) := ri_of (by decide +kernel) rfl
theorem wk_99_374 : rx_kt (rt_P sc fm) 99 374 = some (.long (10)) := (by decide +kernel : rt_kt 99 374 = some (.long (10)))
theorem wk_99_376 : rx_kt (rt_P sc fm) 99 376 = some (.long (48)) := (by decide +kernel : rt_kt 99 376 = some (.long (48)))
theorem wm_367 : rx_ml (rt_P sc fm) 367 = 1 := (by decide +kernel : rt_ml 367 = 1)
theorem wm_368 : rx_ml (rt_P sc fm) 368 = 1 := (by decide +kernel : rt_ml 368 = 1)
theorem wm_369 : rx_ml (rt_P sc fm) 369 = 1 := (by decide +kernel : rt_ml 369 = 1)
theorem wm_371 : rx_ml (rt_P sc fm) 371 = 4 := (by decide +kernel : rt_ml 371 = 4)
theorem wm_97 : rx_ml (rt_P sc fm) 97 = 3 := (by decide +kernel : rt_ml 97 = 3)
theorem wm_98 : rx_ml (rt_P sc fm) 98 = 5 := (by decide +kernel : rt_ml 98 = 5)
theorem wp_99_418 : rx_pt (rt_P sc fm) 99 418 = some (15, 7, .int) := (by decide +kernel : rt_pt 99 418 = some (15, 7, .int))
theorem wr_99 : rx_rt (rt_P sc fm) 99 = none := (by decide +kernel : rt_rt 99 = none)
/-- MarkHouseModel.cut(I)V -/
def d_99 (n : Nat) (a1 : Int32) (c : cS) : Option (cS) :=
  lt (pI c 174 7 0) (fun c1 =>
  Option.bind (whl (R := (cS)) (fun s4 : Int32 × cS =>
    if a1 ≤ s4.1 then
      some (.inr s4.2)
    else
      if (s4.2.1 174 13) = 0 then
        if ib s4.1 4000 then
        lt ((s4.2.1 175 (ix s4.1)) : Int32) (fun v7 =>
        jn (fun p10 : Int32 × cS =>
          some (.inl (p10.1, p10.2)))
        (fun j416 =>
        jn (fun p11 : Unit =>
          lt (s4.1 + 1 : Int32) (fun v13 =>
          j416 (v13, s4.2)))
        (fun j41 =>
        if v7 = 32 then
          j41 ()
        else
          if v7 = 10 then
            j41 ()
          else
            Option.bind (d_367 n v7) (fun v15 =>
            if v15 = 0 then
              Option.bind (d_368 n v7) (fun v16 =>
              if v16 = 0 then
                if v7 = 39 then
                  lt (s4.1 + 1 : Int32) (fun v25 =>
                  Option.bind (whl (R := (Int32 × Int64)) (fun s27 : Int32 × Int64 =>
                    if a1 ≤ s27.1 then
                      some (.inr (s27.1, s27.2))
                    else
                      if 8 < (s27.1 - s4.1) then
                        some (.inr (s27.1, s27.2))
                      else
                        if ib s27.1 4000 then
                        if (s4.2.1 175 (ix s27.1)) < 32 then
                          some (.inr (s27.1, s27.2))
                        else
                          if ib s27.1 4000 then
                          if 126 < (s4.2.1 175 (ix s27.1)) then
                            some (.inr (s27.1, s27.2))
                          else
                            if ib s27.1 4000 then
                            if (s4.2.1 175 (ix s27.1)) = 39 then
                              some (.inr (s27.1, s27.2))
                            else
                              if ib s27.1 4000 then
                              lt (((s27.2 <<< ((8 : Int32).toInt64 &&& 63)) ||| ((s4.2.1 175 (ix s27.1)) : Int32).toInt64) : Int64) (fun v33 =>
                              lt (s27.1 + 1 : Int32) (fun v36 =>
                              some (.inl (v36, v33))))
                              else none
                            else none
                          else none
                        else none) n (v25, 0))
                  (fun x38 : Int32 × Int64 =>
                    jn (fun p39 : cS =>
                      lt (x38.1 + 1 : Int32) (fun v41 =>
                      Option.bind (d_98 n 2 s4.1 x38.2 p39) (fun r43 =>
                      j416 (v41, r43))))
                    (fun j372 =>
                    jn (fun p44 : Unit =>
                      Option.bind (d_97 n 1 s4.1 s4.2) (fun r45 =>
                      j372 r45))
                    (fun j365 =>
                    if a1 ≤ x38.1 then
                      j365 ()
                    else
                      if ib x38.1 4000 then
                      if (s4.2.1 175 (ix x38.1)) = 39 then
                        j372 s4.2
                      else
                        j365 ()
                      else none))))
                else
                  Option.bind (d_369 n v7) (fun v17 =>
                  if v17 = 0 then
                    Option.bind (d_97 n 1 s4.1 s4.2) (fun r18 =>
                    j416 (s4.1, r18))
                  else
                    Option.bind (d_98 n 3 s4.1 ((v7 : Int32).toInt64) s4.2) (fun r19 =>
                    lt (s4.1 + 1 : Int32) (fun v21 =>
                    j416 (v21, r19))))
              else
                Option.bind (whl (R := (Int32 × Int64)) (fun s48 : Int32 × Int64 =>
                  if a1 ≤ s48.1 then
                    some (.inr (s48.1, s48.2))
                  else
                    if ib s48.1 4000 then
                    Option.bind (d_368 n (s4.2.1 175 (ix s48.1))) (fun v50 =>
                    if v50 = 0 then
                      some (.inr (s48.1, s48.2))
                    else
                      jn (fun p51 : Int64 =>
                        lt (s48.1 + 1 : Int32) (fun v54 =>
                        some (.inl (v54, p51))))
                      (fun j233 =>
                      if 9 ≤ (s48.1 - s4.1) then
                        j233 s48.2
                      else
                        if ib s48.1 4000 then
                        j233 (((10 * s48.2) + ((s4.2.1 175 (ix s48.1)) : Int32).toInt64) - 48)
                        else none))
                    else none) n (s4.1, 0))
                (fun x57 : Int32 × Int64 =>
                  jn (fun p58 : cS =>
                    Option.bind (d_98 n 1 s4.1 x57.2 p58) (fun r59 =>
                    j416 (x57.1, r59)))
                  (fun j257 =>
                  if (x57.1 - s4.1) ≤ 9 then
                    j257 s4.2
                  else
                    Option.bind (d_97 n 1 s4.1 s4.2) (fun r60 =>
                    j257 r60))))
            else
              Option.bind (whl (R := (Int32 × Int64)) (fun s62 : Int32 × Int64 =>
                if a1 ≤ s62.1 then
                  some (.inr (s62.1, s62.2))
                else
                  if ib s62.1 4000 then
                  Option.bind (d_367 n (s4.2.1 175 (ix s62.1))) (fun v64 =>
                  jn (fun p65 : Unit =>
                    if ib s62.1 4000 then
                    lt (((s62.2 <<< ((8 : Int32).toInt64 &&& 63)) ||| ((s4.2.1 175 (ix s62.1)) : Int32).toInt64) : Int64) (fun v68 =>
                    lt (s62.1 + 1 : Int32) (fun v71 =>
                    some (.inl (v71, v68))))
                    else none)
                  (fun j86 =>
                  if v64 = 0 then
                    if ib s62.1 4000 then
                    Option.bind (d_368 n (s4.2.1 175 (ix s62.1))) (fun v74 =>
                    if v74 = 0 then
                      some (.inr (s62.1, s62.2))
                    else
                      j86 ())
                    else none
                  else
                    j86 ()))
                  else none) n (s4.1, 0))
              (fun x75 : Int32 × Int64 =>
                jn (fun p76 : cS =>
                  jn (fun p77 : Int32 =>
                    jn (fun p79 : cS =>
                      j416 (x75.1, p79))
                    (fun j171 =>
                    if p77 < 0 then
                      Option.bind (d_98 n 0 s4.1 x75.2 p76) (fun r80 =>
                      j171 r80)
                    else
                      Option.bind (d_98 n 4 s4.1 ((p77 : Int32).toInt64) p76) (fun r81 =>
                      j171 r81)))
                  (fun j142 =>
                  if (x75.1 - s4.1) ≤ 8 then
                    Option.bind (d_371 n x75.2 p76) (fun v82 =>
                    j142 v82)
                  else
                    j142 (-1)))
                (fun j123 =>
                if (x75.1 - s4.1) ≤ 8 then
                  j123 s4.2
                else
                  Option.bind (d_97 n 1 s4.1 s4.2) (fun r83 =>
                  j123 r83)))))))
        else none
      else
        some (.inr s4.2)) n (0, c1))
  (fun x84 : cS =>
    Option.bind (d_98 n 5 a1 0 x84) (fun r85 =>
    some r85)))
set_option maxRecDepth 100000 in
set_option maxHeartbeats 4000000 in
theorem sp_99 {F Lo n : Nat} {a1 : Int32} {c y : cS} {w : cW} {K : cS → Prop} {Q : ((Option Value) ⊕ String) → List va_E → Prop} (hw : rOK fm w) (hF : 6 ≤ F) (hLo : 131 ≤ Lo)  (h : wp (d_99 n a1 c) K) (hQ : ∀ r, K r → Q (.inl none) (hq false r y w)) : rs (rt_P sc fm) 99 F Lo 0 [(0, .ref 174), (1, .int a1)] [] (hq false c y w) Q := by
  unfold d_99 at h
  obtain ⟨lv, elv⟩ : ∃ lv : rx_L, lv = [(0, .ref 174), (1, .int a1)] := ⟨_, rfl⟩
  rw [← elv]
  have l0 : rx_ld lv 0 = some (.ref 174) := by rw [elv]; rfl
  have l1 : rx_ld lv 1 = some (.int a1) := by rw [elv]; rfl
  refine rs_aldn wi_99_0 l0 ?_
  refine rs_pure wi_99_1 rfl ?_
  refine rs_topi (v := 0) (by decide) ?_
  obtain ⟨c1, e2, h⟩ := wp_lt h
  refine dq_pi wi_99_2 wp_99_418 tf_174_7 rfl rfl e2 ?_
  refine rs_pure wi_99_5 rfl ?_
  refine rs_topi (v := 0) (by decide) ?_
  refine dl_istn wi_99_6 rfl (fun lv l2 t3 => ?_)
  have l0 := t3 _ _ (by decide) (Or.inl rfl) l0
  have l1 := t3 _ _ (by decide) (Or.inl rfl) l1
  refine whl_ex (A := fun s4 : Int32 × cS => ∀ lv, rx_ld lv 0 = some (.ref 174) → rx_ld lv 1 = some (.int a1) → rx_ld lv 2 = some (.int s4.1) → rs (rt_P sc fm) 99 F Lo 7 lv [] (hq false s4.2 y w) Q) (B := (fun x84 : cS => ∀ lv, rx_ld lv 0 = some (.ref 174) → rx_ld lv 1 = some (.int a1) → rs (rt_P sc fm) 99 F Lo 419 lv [] (hq false x84 y w) Q)) ?_ ?_ _ _ (wp_bind h) _ l0 l1 l2
  · intro s4 h lv l0 l1 l2
    refine rs_ildn wi_99_7 l2 ?_
    refine rs_ildn wi_99_8 l1 ?_
    refine rs_icge (tg := 419) wi_99_9 ⟨by decide, by decide⟩ (fun q => ?_) (fun q => ?_)
    ·
      have h := wp_pos h q
      exact h _ l0 l1
    ·
      have h := wp_neg h q
      refine rs_aldn wi_99_12 l0 ?_
      refine dq_gi wi_99_13 wf_99_409 tf_174_13 ?_
      refine rs_ifne (tg := 419) wi_99_16 ⟨by decide, by decide⟩ (fun q => ?_) (fun q => ?_)
      ·
        have h := wp_neg h q
        exact h _ l0 l1
      ·
        have h := wp_pos h q
        refine rs_aldn wi_99_19 l0 ?_
        refine dq_gr wi_99_20 wf_99_9 tf_174_1 ?_
        refine rs_ildn wi_99_23 l2 ?_
        obtain ⟨g5, h⟩ := wp_gd h
        refine dq_iald wi_99_24 t_175 g5 ?_
        obtain ⟨v7, e8, h⟩ := wp_lt h
        refine rs_topi e8 ?_
        refine dl_istn wi_99_25 rfl (fun lv l3 t6 => ?_)
        have l0 := t6 _ _ (by decide) (Or.inl rfl) l0
        have l1 := t6 _ _ (by decide) (Or.inl rfl) l1
        have l2 := t6 _ _ (by decide) (Or.inl rfl) l2
        refine rs_ildn wi_99_26 l2 ?_
        refine dl_ist wi_99_27 rfl (fun lv l4 t9 => ?_)
        have l0 := t9 _ _ (by decide) (Or.inl rfl) l0
        have l1 := t9 _ _ (by decide) (Or.inl rfl) l1
        have l2 := t9 _ _ (by decide) (Or.inl rfl) l2
        have l3 := t9 _ _ (by decide) (Or.inl rfl) l3
        refine rs_ildn wi_99_29 l3 ?_
        refine rs_pure wi_99_30 rfl ?_
        refine rs_topi (v := 32) (by decide) ?_
        refine wp_jn (B := fun p10 : Int32 × cS => ∀ lv, rx_ld lv 0 = some (.ref 174) → rx_ld lv 1 = some (.int a1) → rx_ld lv 2 = some (.int p10.1) → rs (rt_P sc fm) 99 F Lo 416 lv [] (hq false p10.2 y w) Q) h (fun p10 h lv l0 l1 l2 => ?_) (fun j416 hj416 h => ?_)
        ·
          refine rs_goto (tg := 7) wi_99_416 ⟨by decide, by decide⟩ ?_
          exact h _ l0 l1 l2
        refine wp_jn (B := fun p11 : Unit => ∀ lv, rx_ld lv 0 = some (.ref 174) → rx_ld lv 1 = some (.int a1) → rx_ld lv 2 = some (.int s4.1) → rs (rt_P sc fm) 99 F Lo 41 lv [] (hq false s4.2 y w) Q) h (fun p11 h lv l0 l1 l2 => ?_) (fun j41 hj41 h => ?_)
        ·
          obtain ⟨v13, e14, h⟩ := wp_lt h
          refine dl_inc wi_99_41 l2 rfl e14 (fun lv l2 t12 => ?_)
          have l0 := t12 _ _ (by decide) (Or.inl rfl) l0
          have l1 := t12 _ _ (by decide) (Or.inl rfl) l1
          refine rs_goto (tg := 416) wi_99_44 ⟨by decide, by decide⟩ ?_
          exact hj416 _ h _ l0 l1 l2
        refine rs_iceq (tg := 41) wi_99_32 ⟨by decide, by decide⟩ (fun q => ?_) (fun q => ?_)
        ·
          have h := wp_pos h q
          exact hj41 _ h _ l0 l1 l2
        ·
          have h := wp_neg h q
          refine rs_ildn wi_99_35 l3 ?_
          refine rs_pure wi_99_36 rfl ?_
          refine rs_topi (v := 10) (by decide) ?_
          refine rs_icne (tg := 47) wi_99_38 ⟨by decide, by decide⟩ (fun q => ?_) (fun q => ?_)
          ·
            have h := wp_neg h q
            refine rs_ildn wi_99_47 l3 ?_
            refine rs_S wi_99_48 wc_99_425 (Or.inl rfl) rfl (Nat.le_trans (by decide) hF) (ml_le wm_367 (Nat.le_trans (by decide) hLo)) rfl (sp_367 (Nat.le_trans (by decide : 0 ≤ 6 - 1) (Nat.sub_le_sub_right hF 1)) (ml_sub wm_367 (Nat.le_trans (by decide : 0 ≤ 131 - 20) (Nat.sub_le_sub_right hLo 20))) (wp_bind h) (fun v15 h => rs_back1 ?_))
            refine rs_ifeq (tg := 174) wi_99_51 ⟨by decide, by decide⟩ (fun q => ?_) (fun q => ?_)
            ·
              have h := wp_pos h q
              refine rs_ildn wi_99_174 l3 ?_
              refine rs_S wi_99_175 wc_99_429 (Or.inl rfl) rfl (Nat.le_trans (by decide) hF) (ml_le wm_368 (Nat.le_trans (by decide) hLo)) rfl (sp_368 (Nat.le_trans (by decide : 0 ≤ 6 - 1) (Nat.sub_le_sub_right hF 1)) (ml_sub wm_368 (Nat.le_trans (by decide : 0 ≤ 131 - 20) (Nat.sub_le_sub_right hLo 20))) (wp_bind h) (fun v16 h => rs_back1 ?_))
              refine rs_ifeq (tg := 269) wi_99_178 ⟨by decide, by decide⟩ (fun q => ?_) (fun q => ?_)
              ·
                have h := wp_pos h q
                refine rs_ildn wi_99_269 l3 ?_
                refine rs_pure wi_99_270 rfl ?_
                refine rs_topi (v := 39) (by decide) ?_
                refine rs_icne (tg := 387) wi_99_272 ⟨by decide, by decide⟩ (fun q => ?_) (fun q => ?_)
                ·
                  have h := wp_neg h q
                  refine rs_ildn wi_99_387 l3 ?_
                  refine rs_S wi_99_388 wc_99_444 (Or.inl rfl) rfl (Nat.le_trans (by decide) hF) (ml_le wm_369 (Nat.le_trans (by decide) hLo)) rfl (sp_369 (Nat.le_trans (by decide : 0 ≤ 6 - 1) (Nat.sub_le_sub_right hF 1)) (ml_sub wm_369 (Nat.le_trans (by decide : 0 ≤ 131 - 20) (Nat.sub_le_sub_right hLo 20))) (wp_bind h) (fun v17 h => rs_back1 ?_))
                  refine rs_ifeq (tg := 409) wi_99_391 ⟨by decide, by decide⟩ (fun q => ?_) (fun q => ?_)
                  ·
                    have h := wp_pos h q
                    refine rs_aldn wi_99_409 l0 ?_
                    refine rs_pure wi_99_410 rfl ?_
                    refine rs_topi (v := 1) (by decide) ?_
                    refine rs_ild wi_99_411 l4 ?_
                    refine rs_V wi_99_413 wc_99_432 rfl (dq_isa tf_174_0 wa_15_97) (Nat.le_trans (by decide) hF) (ml_le wm_97 (Nat.le_trans (by decide) hLo)) rfl (sp_97 hw (Nat.le_trans (by decide : 0 ≤ 6 - 1) (Nat.sub_le_sub_right hF 1)) (ml_sub wm_97 (Nat.le_trans (by decide : 0 ≤ 131 - 22) (Nat.sub_le_sub_right hLo 22))) (wp_bind h) (fun r18 h => rs_back0 ?_))
                    exact hj416 _ h _ l0 l1 l2
                  ·
                    have h := wp_neg h q
                    refine rs_aldn wi_99_394 l0 ?_
                    refine rs_pure wi_99_395 rfl ?_
                    refine rs_topi (v := 3) (by decide) ?_
                    refine rs_ild wi_99_396 l4 ?_
                    refine rs_ildn wi_99_398 l3 ?_
                    refine rs_pure wi_99_399 rfl ?_
                    refine rs_V wi_99_400 wc_99_440 rfl (dq_isa tf_174_0 wa_15_98) (Nat.le_trans (by decide) hF) (ml_le wm_98 (Nat.le_trans (by decide) hLo)) rfl (sp_98 hw (Nat.le_trans (by decide : 0 ≤ 6 - 1) (Nat.sub_le_sub_right hF 1)) (ml_sub wm_98 (Nat.le_trans (by decide : 0 ≤ 131 - 24) (Nat.sub_le_sub_right hLo 24))) (wp_bind h) (fun r19 h => rs_back0 ?_))
                    obtain ⟨v21, e22, h⟩ := wp_lt h
                    refine dl_inc wi_99_403 l2 rfl e22 (fun lv l2 t20 => ?_)
                    have l0 := t20 _ _ (by decide) (Or.inl rfl) l0
                    have l1 := t20 _ _ (by decide) (Or.inl rfl) l1
                    refine rs_goto (tg := 416) wi_99_406 ⟨by decide, by decide⟩ ?_
                    exact hj416 _ h _ l0 l1 l2
                ·
                  have h := wp_pos h q
                  refine rs_pure wi_99_275 rfl ?_
                  refine rs_topl (v := 0) (by decide) ?_
                  refine dl_lst wi_99_276 rfl (fun lv l5 t23 => ?_)
                  have l0 := t23 _ _ (by decide) (by decide) (Or.inl rfl) l0
                  have l1 := t23 _ _ (by decide) (by decide) (Or.inl rfl) l1
                  have l2 := t23 _ _ (by decide) (by decide) (Or.inl rfl) l2
                  have l4 := t23 _ _ (by decide) (by decide) (Or.inl rfl) l4
                  obtain ⟨v25, e26, h⟩ := wp_lt h
                  refine dl_inc wi_99_278 l2 rfl e26 (fun lv l2 t24 => ?_)
                  have l0 := t24 _ _ (by decide) (Or.inl rfl) l0
                  have l1 := t24 _ _ (by decide) (Or.inl rfl) l1
                  have l4 := t24 _ _ (by decide) (Or.inl rfl) l4
                  have l5 := t24 _ _ (by decide) (Or.inr (by decide)) l5
                  refine whl_ex (A := fun s27 : Int32 × Int64 => ∀ lv, rx_ld lv 0 = some (.ref 174) → rx_ld lv 1 = some (.int a1) → rx_ld lv 2 = some (.int s27.1) → rx_ld lv 4 = some (.int s4.1) → rx_ld lv 5 = some (.long s27.2) → rs (rt_P sc fm) 99 F Lo 281 lv [] (hq false s4.2 y w) Q) (B := (fun x38 : Int32 × Int64 => ∀ lv, rx_ld lv 0 = some (.ref 174) → rx_ld lv 1 = some (.int a1) → rx_ld lv 2 = some (.int x38.1) → rx_ld lv 4 = some (.int s4.1) → rx_ld lv 5 = some (.long x38.2) → rs (rt_P sc fm) 99 F Lo 349 lv [] (hq false s4.2 y w) Q)) ?_ ?_ _ _ (wp_bind h) _ l0 l1 l2 l4 l5
                  · intro s27 h lv l0 l1 l2 l4 l5
                    refine rs_ildn wi_99_281 l2 ?_
                    refine rs_ildn wi_99_282 l1 ?_
                    refine rs_icge (tg := 349) wi_99_283 ⟨by decide, by decide⟩ (fun q => ?_) (fun q => ?_)
                    ·
                      have h := wp_pos h q
                      exact h _ l0 l1 l2 l4 l5
                    ·
                      have h := wp_neg h q
                      refine rs_ildn wi_99_286 l2 ?_
                      refine rs_ild wi_99_287 l4 ?_
                      refine rs_pure wi_99_289 rfl ?_
                      refine rs_pure wi_99_290 rfl ?_
                      refine rs_topi (v := 8) (by decide) ?_
                      refine rs_icgt (tg := 349) wi_99_292 ⟨by decide, by decide⟩ (fun q => ?_) (fun q => ?_)
                      ·
                        have h := wp_pos h q
                        exact h _ l0 l1 l2 l4 l5
                      ·
                        have h := wp_neg h q
                        refine rs_aldn wi_99_295 l0 ?_
                        refine dq_gr wi_99_296 wf_99_9 tf_174_1 ?_
                        refine rs_ildn wi_99_299 l2 ?_
                        obtain ⟨g28, h⟩ := wp_gd h
                        refine dq_iald wi_99_300 t_175 g28 ?_
                        refine rs_pure wi_99_301 rfl ?_
                        refine rs_topi (v := 32) (by decide) ?_
                        refine rs_iclt (tg := 349) wi_99_303 ⟨by decide, by decide⟩ (fun q => ?_) (fun q => ?_)
                        ·
                          have h := wp_pos h q
                          exact h _ l0 l1 l2 l4 l5
                        ·
                          have h := wp_neg h q
                          refine rs_aldn wi_99_306 l0 ?_
                          refine dq_gr wi_99_307 wf_99_9 tf_174_1 ?_
                          refine rs_ildn wi_99_310 l2 ?_
                          obtain ⟨g29, h⟩ := wp_gd h
                          refine dq_iald wi_99_311 t_175 g29 ?_
                          refine rs_pure wi_99_312 rfl ?_
                          refine rs_topi (v := 126) (by decide) ?_
                          refine rs_icgt (tg := 349) wi_99_314 ⟨by decide, by decide⟩ (fun q => ?_) (fun q => ?_)
                          ·
                            have h := wp_pos h q
                            exact h _ l0 l1 l2 l4 l5
                          ·
                            have h := wp_neg h q
                            refine rs_aldn wi_99_317 l0 ?_
                            refine dq_gr wi_99_318 wf_99_9 tf_174_1 ?_
                            refine rs_ildn wi_99_321 l2 ?_
                            obtain ⟨g30, h⟩ := wp_gd h
                            refine dq_iald wi_99_322 t_175 g30 ?_
                            refine rs_pure wi_99_323 rfl ?_
                            refine rs_topi (v := 39) (by decide) ?_
                            refine rs_iceq (tg := 349) wi_99_325 ⟨by decide, by decide⟩ (fun q => ?_) (fun q => ?_)
                            ·
                              have h := wp_pos h q
                              exact h _ l0 l1 l2 l4 l5
                            ·
                              have h := wp_neg h q
                              refine rs_lld wi_99_328 l5 ?_
                              refine rs_pure wi_99_330 rfl ?_
                              refine rs_topi (v := 8) (by decide) ?_
                              refine rs_pure wi_99_332 rfl ?_
                              refine rs_aldn wi_99_333 l0 ?_
                              refine dq_gr wi_99_334 wf_99_9 tf_174_1 ?_
                              refine rs_ildn wi_99_337 l2 ?_
                              obtain ⟨g31, h⟩ := wp_gd h
                              refine dq_iald wi_99_338 t_175 g31 ?_
                              refine rs_pure wi_99_339 rfl ?_
                              refine rs_pure wi_99_340 rfl ?_
                              obtain ⟨v33, e34, h⟩ := wp_lt h
                              refine rs_topl e34 ?_
                              refine dl_lst wi_99_341 rfl (fun lv l5 t32 => ?_)
                              have l0 := t32 _ _ (by decide) (by decide) (Or.inl rfl) l0
                              have l1 := t32 _ _ (by decide) (by decide) (Or.inl rfl) l1
                              have l2 := t32 _ _ (by decide) (by decide) (Or.inl rfl) l2
                              have l4 := t32 _ _ (by decide) (by decide) (Or.inl rfl) l4
                              obtain ⟨v36, e37, h⟩ := wp_lt h
                              refine dl_inc wi_99_343 l2 rfl e37 (fun lv l2 t35 => ?_)
                              have l0 := t35 _ _ (by decide) (Or.inl rfl) l0
                              have l1 := t35 _ _ (by decide) (Or.inl rfl) l1
                              have l4 := t35 _ _ (by decide) (Or.inl rfl) l4
                              have l5 := t35 _ _ (by decide) (Or.inr (by decide)) l5
                              refine rs_goto (tg := 281) wi_99_346 ⟨by decide, by decide⟩ ?_
                              exact h _ l0 l1 l2 l4 l5
                  ·
                    intro x38 h lv l0 l1 l2 l4 l5
                    refine rs_ildn wi_99_349 l2 ?_
                    refine rs_ildn wi_99_350 l1 ?_
                    refine wp_jn (B := fun p39 : cS => ∀ lv, rx_ld lv 0 = some (.ref 174) → rx_ld lv 1 = some (.int a1) → rx_ld lv 2 = some (.int x38.1) → rx_ld lv 4 = some (.int s4.1) → rx_ld lv 5 = some (.long x38.2) → rs (rt_P sc fm) 99 F Lo 372 lv [] (hq false p39 y w) Q) h (fun p39 h lv l0 l1 l2 l4 l5 => ?_) (fun j372 hj372 h => ?_)
                    ·
                      obtain ⟨v41, e42, h⟩ := wp_lt h
                      refine dl_inc wi_99_372 l2 rfl e42 (fun lv l2 t40 => ?_)
                      have l0 := t40 _ _ (by decide) (Or.inl rfl) l0
                      have l1 := t40 _ _ (by decide) (Or.inl rfl) l1
                      have l4 := t40 _ _ (by decide) (Or.inl rfl) l4
                      have l5 := t40 _ _ (by decide) (Or.inr (by decide)) l5
                      refine rs_aldn wi_99_375 l0 ?_
                      refine rs_pure wi_99_376 rfl ?_
                      refine rs_topi (v := 2) (by decide) ?_
                      refine rs_ild wi_99_377 l4 ?_
                      refine rs_lld wi_99_379 l5 ?_
                      refine rs_V wi_99_381 wc_99_440 rfl (dq_isa tf_174_0 wa_15_98) (Nat.le_trans (by decide) hF) (ml_le wm_98 (Nat.le_trans (by decide) hLo)) rfl (sp_98 hw (Nat.le_trans (by decide : 0 ≤ 6 - 1) (Nat.sub_le_sub_right hF 1)) (ml_sub wm_98 (Nat.le_trans (by decide : 0 ≤ 131 - 24) (Nat.sub_le_sub_right hLo 24))) (wp_bind h) (fun r43 h => rs_back0 ?_))
                      refine rs_goto (tg := 416) wi_99_384 ⟨by decide, by decide⟩ ?_
                      exact hj416 _ h _ l0 l1 l2
                    refine wp_jn (B := fun p44 : Unit => ∀ lv, rx_ld lv 0 = some (.ref 174) → rx_ld lv 1 = some (.int a1) → rx_ld lv 2 = some (.int x38.1) → rx_ld lv 4 = some (.int s4.1) → rx_ld lv 5 = some (.long x38.2) → rs (rt_P sc fm) 99 F Lo 365 lv [] (hq false s4.2 y w) Q) h (fun p44 h lv l0 l1 l2 l4 l5 => ?_) (fun j365 hj365 h => ?_)
                    ·
                      refine rs_aldn wi_99_365 l0 ?_
                      refine rs_pure wi_99_366 rfl ?_
                      refine rs_topi (v := 1) (by decide) ?_
                      refine rs_ild wi_99_367 l4 ?_
                      refine rs_V wi_99_369 wc_99_432 rfl (dq_isa tf_174_0 wa_15_97) (Nat.le_trans (by decide) hF) (ml_le wm_97 (Nat.le_trans (by decide) hLo)) rfl (sp_97 hw (Nat.le_trans (by decide : 0 ≤ 6 - 1) (Nat.sub_le_sub_right hF 1)) (ml_sub wm_97 (Nat.le_trans (by decide : 0 ≤ 131 - 22) (Nat.sub_le_sub_right hLo 22))) (wp_bind h) (fun r45 h => rs_back0 ?_))
                      exact hj372 _ h _ l0 l1 l2 l4 l5
                    refine rs_icge (tg := 365) wi_99_351 ⟨by decide, by decide⟩ (fun q => ?_) (fun q => ?_)
                    ·
                      have h := wp_pos h q
                      exact hj365 _ h _ l0 l1 l2 l4 l5
                    ·
                      have h := wp_neg h q
                      refine rs_aldn wi_99_354 l0 ?_
                      refine dq_gr wi_99_355 wf_99_9 tf_174_1 ?_
                      refine rs_ildn wi_99_358 l2 ?_
                      obtain ⟨g46, h⟩ := wp_gd h
                      refine dq_iald wi_99_359 t_175 g46 ?_
                      refine rs_pure wi_99_360 rfl ?_
                      refine rs_topi (v := 39) (by decide) ?_
                      refine rs_iceq (tg := 372) wi_99_362 ⟨by decide, by decide⟩ (fun q => ?_) (fun q => ?_)
                      ·
                        have h := wp_pos h q
                        exact hj372 _ h _ l0 l1 l2 l4 l5
                      ·
                        have h := wp_neg h q
                        exact hj365 _ h _ l0 l1 l2 l4 l5
              ·
                have h := wp_neg h q
                refine rs_pure wi_99_181 rfl ?_
                refine rs_topl (v := 0) (by decide) ?_
                refine dl_lst wi_99_182 rfl (fun lv l5 t47 => ?_)
                have l0 := t47 _ _ (by decide) (by decide) (Or.inl rfl) l0
                have l1 := t47 _ _ (by decide) (by decide) (Or.inl rfl) l1
                have l2 := t47 _ _ (by decide) (by decide) (Or.inl rfl) l2
                have l4 := t47 _ _ (by decide) (by decide) (Or.inl rfl) l4
                refine whl_ex (A := fun s48 : Int32 × Int64 => ∀ lv, rx_ld lv 0 = some (.ref 174) → rx_ld lv 1 = some (.int a1) → rx_ld lv 2 = some (.int s48.1) → rx_ld lv 4 = some (.int s4.1) → rx_ld lv 5 = some (.long s48.2) → rs (rt_P sc fm) 99 F Lo 184 lv [] (hq false s4.2 y w) Q) (B := (fun x57 : Int32 × Int64 => ∀ lv, rx_ld lv 0 = some (.ref 174) → rx_ld lv 1 = some (.int a1) → rx_ld lv 2 = some (.int x57.1) → rx_ld lv 4 = some (.int s4.1) → rx_ld lv 5 = some (.long x57.2) → rs (rt_P sc fm) 99 F Lo 241 lv [] (hq false s4.2 y w) Q)) ?_ ?_ _ _ (wp_bind h) _ l0 l1 l2 l4 l5
                · intro s48 h lv l0 l1 l2 l4 l5
                  refine rs_ildn wi_99_184 l2 ?_
                  refine rs_ildn wi_99_185 l1 ?_
                  refine rs_icge (tg := 241) wi_99_186 ⟨by decide, by decide⟩ (fun q => ?_) (fun q => ?_)
                  ·
                    have h := wp_pos h q
                    exact h _ l0 l1 l2 l4 l5
                  ·
                    have h := wp_neg h q
                    refine rs_aldn wi_99_189 l0 ?_
                    refine dq_gr wi_99_190 wf_99_9 tf_174_1 ?_
                    refine rs_ildn wi_99_193 l2 ?_
                    obtain ⟨g49, h⟩ := wp_gd h
                    refine dq_iald wi_99_194 t_175 g49 ?_
                    refine rs_S wi_99_195 wc_99_429 (Or.inl rfl) rfl (Nat.le_trans (by decide) hF) (ml_le wm_368 (Nat.le_trans (by decide) hLo)) rfl (sp_368 (Nat.le_trans (by decide : 0 ≤ 6 - 1) (Nat.sub_le_sub_right hF 1)) (ml_sub wm_368 (Nat.le_trans (by decide : 0 ≤ 131 - 20) (Nat.sub_le_sub_right hLo 20))) (wp_bind h) (fun v50 h => rs_back1 ?_))
                    refine rs_ifeq (tg := 241) wi_99_198 ⟨by decide, by decide⟩ (fun q => ?_) (fun q => ?_)
                    ·
                      have h := wp_pos h q
                      exact h _ l0 l1 l2 l4 l5
                    ·
                      have h := wp_neg h q
                      refine rs_ildn wi_99_201 l2 ?_
                      refine rs_ild wi_99_202 l4 ?_
                      refine rs_pure wi_99_204 rfl ?_
                      refine rs_pure wi_99_205 rfl ?_
                      refine rs_topi (v := 9) (by decide) ?_
                      refine wp_jn (B := fun p51 : Int64 => ∀ lv, rx_ld lv 0 = some (.ref 174) → rx_ld lv 1 = some (.int a1) → rx_ld lv 2 = some (.int s48.1) → rx_ld lv 4 = some (.int s4.1) → rs (rt_P sc fm) 99 F Lo 233 lv [.long p51] (hq false s4.2 y w) Q) h (fun p51 h lv l0 l1 l2 l4 => ?_) (fun j233 hj233 h => ?_)
                      ·
                        refine dl_lst wi_99_233 rfl (fun lv l5 t52 => ?_)
                        have l0 := t52 _ _ (by decide) (by decide) (Or.inl rfl) l0
                        have l1 := t52 _ _ (by decide) (by decide) (Or.inl rfl) l1
                        have l2 := t52 _ _ (by decide) (by decide) (Or.inl rfl) l2
                        have l4 := t52 _ _ (by decide) (by decide) (Or.inl rfl) l4
                        obtain ⟨v54, e55, h⟩ := wp_lt h
                        refine dl_inc wi_99_235 l2 rfl e55 (fun lv l2 t53 => ?_)
                        have l0 := t53 _ _ (by decide) (Or.inl rfl) l0
                        have l1 := t53 _ _ (by decide) (Or.inl rfl) l1
                        have l4 := t53 _ _ (by decide) (Or.inl rfl) l4
                        have l5 := t53 _ _ (by decide) (Or.inr (by decide)) l5
                        refine rs_goto (tg := 184) wi_99_238 ⟨by decide, by decide⟩ ?_
                        exact h _ l0 l1 l2 l4 l5
                      refine rs_icge (tg := 231) wi_99_207 ⟨by decide, by decide⟩ (fun q => ?_) (fun q => ?_)
                      ·
                        have h := wp_pos h q
                        refine rs_lld wi_99_231 l5 ?_
                        exact hj233 _ h _ l0 l1 l2 l4
                      ·
                        have h := wp_neg h q
                        refine rs_ldcl wi_99_210 wk_99_374 ?_
                        refine rs_lld wi_99_213 l5 ?_
                        refine rs_pure wi_99_215 rfl ?_
                        refine rs_aldn wi_99_216 l0 ?_
                        refine dq_gr wi_99_217 wf_99_9 tf_174_1 ?_
                        refine rs_ildn wi_99_220 l2 ?_
                        obtain ⟨g56, h⟩ := wp_gd h
                        refine dq_iald wi_99_221 t_175 g56 ?_
                        refine rs_pure wi_99_222 rfl ?_
                        refine rs_pure wi_99_223 rfl ?_
                        refine rs_ldcl wi_99_224 wk_99_376 ?_
                        refine rs_pure wi_99_227 rfl ?_
                        refine rs_goto (tg := 233) wi_99_228 ⟨by decide, by decide⟩ ?_
                        exact hj233 _ h _ l0 l1 l2 l4
                ·
                  intro x57 h lv l0 l1 l2 l4 l5
                  refine rs_ildn wi_99_241 l2 ?_
                  refine rs_ild wi_99_242 l4 ?_
                  refine rs_pure wi_99_244 rfl ?_
                  refine rs_pure wi_99_245 rfl ?_
                  refine rs_topi (v := 9) (by decide) ?_
                  refine wp_jn (B := fun p58 : cS => ∀ lv, rx_ld lv 0 = some (.ref 174) → rx_ld lv 1 = some (.int a1) → rx_ld lv 2 = some (.int x57.1) → rx_ld lv 4 = some (.int s4.1) → rx_ld lv 5 = some (.long x57.2) → rs (rt_P sc fm) 99 F Lo 257 lv [] (hq false p58 y w) Q) h (fun p58 h lv l0 l1 l2 l4 l5 => ?_) (fun j257 hj257 h => ?_)
                  ·
                    refine rs_aldn wi_99_257 l0 ?_
                    refine rs_pure wi_99_258 rfl ?_
                    refine rs_topi (v := 1) (by decide) ?_
                    refine rs_ild wi_99_259 l4 ?_
                    refine rs_lld wi_99_261 l5 ?_
                    refine rs_V wi_99_263 wc_99_440 rfl (dq_isa tf_174_0 wa_15_98) (Nat.le_trans (by decide) hF) (ml_le wm_98 (Nat.le_trans (by decide) hLo)) rfl (sp_98 hw (Nat.le_trans (by decide : 0 ≤ 6 - 1) (Nat.sub_le_sub_right hF 1)) (ml_sub wm_98 (Nat.le_trans (by decide : 0 ≤ 131 - 24) (Nat.sub_le_sub_right hLo 24))) (wp_bind h) (fun r59 h => rs_back0 ?_))
                    refine rs_goto (tg := 416) wi_99_266 ⟨by decide, by decide⟩ ?_
                    exact hj416 _ h _ l0 l1 l2
                  refine rs_icle (tg := 257) wi_99_247 ⟨by decide, by decide⟩ (fun q => ?_) (fun q => ?_)
                  ·
                    have h := wp_pos h q
                    exact hj257 _ h _ l0 l1 l2 l4 l5
                  ·
                    have h := wp_neg h q
                    refine rs_aldn wi_99_250 l0 ?_
                    refine rs_pure wi_99_251 rfl ?_
                    refine rs_topi (v := 1) (by decide) ?_
                    refine rs_ild wi_99_252 l4 ?_
                    refine rs_V wi_99_254 wc_99_432 rfl (dq_isa tf_174_0 wa_15_97) (Nat.le_trans (by decide) hF) (ml_le wm_97 (Nat.le_trans (by decide) hLo)) rfl (sp_97 hw (Nat.le_trans (by decide : 0 ≤ 6 - 1) (Nat.sub_le_sub_right hF 1)) (ml_sub wm_97 (Nat.le_trans (by decide : 0 ≤ 131 - 22) (Nat.sub_le_sub_right hLo 22))) (wp_bind h) (fun r60 h => rs_back0 ?_))
                    exact hj257 _ h _ l0 l1 l2 l4 l5
            ·
              have h := wp_neg h q
              refine rs_pure wi_99_54 rfl ?_
              refine rs_topl (v := 0) (by decide) ?_
              refine dl_lst wi_99_55 rfl (fun lv l5 t61 => ?_)
              have l0 := t61 _ _ (by decide) (by decide) (Or.inl rfl) l0
              have l1 := t61 _ _ (by decide) (by decide) (Or.inl rfl) l1
              have l2 := t61 _ _ (by decide) (by decide) (Or.inl rfl) l2
              have l4 := t61 _ _ (by decide) (by decide) (Or.inl rfl) l4
              refine whl_ex (A := fun s62 : Int32 × Int64 => ∀ lv, rx_ld lv 0 = some (.ref 174) → rx_ld lv 1 = some (.int a1) → rx_ld lv 2 = some (.int s62.1) → rx_ld lv 4 = some (.int s4.1) → rx_ld lv 5 = some (.long s62.2) → rs (rt_P sc fm) 99 F Lo 57 lv [] (hq false s4.2 y w) Q) (B := (fun x75 : Int32 × Int64 => ∀ lv, rx_ld lv 0 = some (.ref 174) → rx_ld lv 1 = some (.int a1) → rx_ld lv 2 = some (.int x75.1) → rx_ld lv 4 = some (.int s4.1) → rx_ld lv 5 = some (.long x75.2) → rs (rt_P sc fm) 99 F Lo 107 lv [] (hq false s4.2 y w) Q)) ?_ ?_ _ _ (wp_bind h) _ l0 l1 l2 l4 l5
              · intro s62 h lv l0 l1 l2 l4 l5
                refine rs_ildn wi_99_57 l2 ?_
                refine rs_ildn wi_99_58 l1 ?_
                refine rs_icge (tg := 107) wi_99_59 ⟨by decide, by decide⟩ (fun q => ?_) (fun q => ?_)
                ·
                  have h := wp_pos h q
                  exact h _ l0 l1 l2 l4 l5
                ·
                  have h := wp_neg h q
                  refine rs_aldn wi_99_62 l0 ?_
                  refine dq_gr wi_99_63 wf_99_9 tf_174_1 ?_
                  refine rs_ildn wi_99_66 l2 ?_
                  obtain ⟨g63, h⟩ := wp_gd h
                  refine dq_iald wi_99_67 t_175 g63 ?_
                  refine rs_S wi_99_68 wc_99_425 (Or.inl rfl) rfl (Nat.le_trans (by decide) hF) (ml_le wm_367 (Nat.le_trans (by decide) hLo)) rfl (sp_367 (Nat.le_trans (by decide : 0 ≤ 6 - 1) (Nat.sub_le_sub_right hF 1)) (ml_sub wm_367 (Nat.le_trans (by decide : 0 ≤ 131 - 20) (Nat.sub_le_sub_right hLo 20))) (wp_bind h) (fun v64 h => rs_back1 ?_))
                  refine wp_jn (B := fun p65 : Unit => ∀ lv, rx_ld lv 0 = some (.ref 174) → rx_ld lv 1 = some (.int a1) → rx_ld lv 2 = some (.int s62.1) → rx_ld lv 4 = some (.int s4.1) → rx_ld lv 5 = some (.long s62.2) → rs (rt_P sc fm) 99 F Lo 86 lv [] (hq false s4.2 y w) Q) h (fun p65 h lv l0 l1 l2 l4 l5 => ?_) (fun j86 hj86 h => ?_)
                  ·
                    refine rs_lld wi_99_86 l5 ?_
                    refine rs_pure wi_99_88 rfl ?_
                    refine rs_topi (v := 8) (by decide) ?_
                    refine rs_pure wi_99_90 rfl ?_
                    refine rs_aldn wi_99_91 l0 ?_
                    refine dq_gr wi_99_92 wf_99_9 tf_174_1 ?_
                    refine rs_ildn wi_99_95 l2 ?_
                    obtain ⟨g66, h⟩ := wp_gd h
                    refine dq_iald wi_99_96 t_175 g66 ?_
                    refine rs_pure wi_99_97 rfl ?_
                    refine rs_pure wi_99_98 rfl ?_
                    obtain ⟨v68, e69, h⟩ := wp_lt h
                    refine rs_topl e69 ?_
                    refine dl_lst wi_99_99 rfl (fun lv l5 t67 => ?_)
                    have l0 := t67 _ _ (by decide) (by decide) (Or.inl rfl) l0
                    have l1 := t67 _ _ (by decide) (by decide) (Or.inl rfl) l1
                    have l2 := t67 _ _ (by decide) (by decide) (Or.inl rfl) l2
                    have l4 := t67 _ _ (by decide) (by decide) (Or.inl rfl) l4
                    obtain ⟨v71, e72, h⟩ := wp_lt h
                    refine dl_inc wi_99_101 l2 rfl e72 (fun lv l2 t70 => ?_)
                    have l0 := t70 _ _ (by decide) (Or.inl rfl) l0
                    have l1 := t70 _ _ (by decide) (Or.inl rfl) l1
                    have l4 := t70 _ _ (by decide) (Or.inl rfl) l4
                    have l5 := t70 _ _ (by decide) (Or.inr (by decide)) l5
                    refine rs_goto (tg := 57) wi_99_104 ⟨by decide, by decide⟩ ?_
                    exact h _ l0 l1 l2 l4 l5
                  refine rs_ifne (tg := 86) wi_99_71 ⟨by decide, by decide⟩ (fun q => ?_) (fun q => ?_)
                  ·
                    have h := wp_neg h q
                    exact hj86 _ h _ l0 l1 l2 l4 l5
                  ·
                    have h := wp_pos h q
                    refine rs_aldn wi_99_74 l0 ?_
                    refine dq_gr wi_99_75 wf_99_9 tf_174_1 ?_
                    refine rs_ildn wi_99_78 l2 ?_
                    obtain ⟨g73, h⟩ := wp_gd h
                    refine dq_iald wi_99_79 t_175 g73 ?_
                    refine rs_S wi_99_80 wc_99_429 (Or.inl rfl) rfl (Nat.le_trans (by decide) hF) (ml_le wm_368 (Nat.le_trans (by decide) hLo)) rfl (sp_368 (Nat.le_trans (by decide : 0 ≤ 6 - 1) (Nat.sub_le_sub_right hF 1)) (ml_sub wm_368 (Nat.le_trans (by decide : 0 ≤ 131 - 20) (Nat.sub_le_sub_right hLo 20))) (wp_bind h) (fun v74 h => rs_back1 ?_))
                    refine rs_ifeq (tg := 107) wi_99_83 ⟨by decide, by decide⟩ (fun q => ?_) (fun q => ?_)
                    ·
                      have h := wp_pos h q
                      exact h _ l0 l1 l2 l4 l5
                    ·
                      have h := wp_neg h q
                      exact hj86 _ h _ l0 l1 l2 l4 l5
              ·
                intro x75 h lv l0 l1 l2 l4 l5
                refine rs_ildn wi_99_107 l2 ?_
                refine rs_ild wi_99_108 l4 ?_
                refine rs_pure wi_99_110 rfl ?_
                refine rs_pure wi_99_111 rfl ?_
                refine rs_topi (v := 8) (by decide) ?_
                refine wp_jn (B := fun p76 : cS => ∀ lv, rx_ld lv 0 = some (.ref 174) → rx_ld lv 1 = some (.int a1) → rx_ld lv 2 = some (.int x75.1) → rx_ld lv 4 = some (.int s4.1) → rx_ld lv 5 = some (.long x75.2) → rs (rt_P sc fm) 99 F Lo 123 lv [] (hq false p76 y w) Q) h (fun p76 h lv l0 l1 l2 l4 l5 => ?_) (fun j123 hj123 h => ?_)
                ·
                  refine rs_ildn wi_99_123 l2 ?_
                  refine rs_ild wi_99_124 l4 ?_
                  refine rs_pure wi_99_126 rfl ?_
                  refine rs_pure wi_99_127 rfl ?_
                  refine rs_topi (v := 8) (by decide) ?_
                  refine wp_jn (B := fun p77 : Int32 => ∀ lv, rx_ld lv 0 = some (.ref 174) → rx_ld lv 1 = some (.int a1) → rx_ld lv 2 = some (.int x75.1) → rx_ld lv 4 = some (.int s4.1) → rx_ld lv 5 = some (.long x75.2) → rs (rt_P sc fm) 99 F Lo 142 lv [.int p77] (hq false p76 y w) Q) h (fun p77 h lv l0 l1 l2 l4 l5 => ?_) (fun j142 hj142 h => ?_)
                  ·
                    refine dl_ist wi_99_142 rfl (fun lv l7 t78 => ?_)
                    have l0 := t78 _ _ (by decide) (Or.inl rfl) l0
                    have l1 := t78 _ _ (by decide) (Or.inl rfl) l1
                    have l2 := t78 _ _ (by decide) (Or.inl rfl) l2
                    have l4 := t78 _ _ (by decide) (Or.inl rfl) l4
                    have l5 := t78 _ _ (by decide) (Or.inr (by decide)) l5
                    refine rs_ild wi_99_144 l7 ?_
                    refine wp_jn (B := fun p79 : cS => ∀ lv, rx_ld lv 0 = some (.ref 174) → rx_ld lv 1 = some (.int a1) → rx_ld lv 2 = some (.int x75.1) → rs (rt_P sc fm) 99 F Lo 171 lv [] (hq false p79 y w) Q) h (fun p79 h lv l0 l1 l2 => ?_) (fun j171 hj171 h => ?_)
                    ·
                      refine rs_goto (tg := 416) wi_99_171 ⟨by decide, by decide⟩ ?_
                      exact hj416 _ h _ l0 l1 l2
                    refine rs_iflt (tg := 162) wi_99_146 ⟨by decide, by decide⟩ (fun q => ?_) (fun q => ?_)
                    ·
                      have h := wp_pos h q
                      refine rs_aldn wi_99_162 l0 ?_
                      refine rs_pure wi_99_163 rfl ?_
                      refine rs_topi (v := 0) (by decide) ?_
                      refine rs_ild wi_99_164 l4 ?_
                      refine rs_lld wi_99_166 l5 ?_
                      refine rs_V wi_99_168 wc_99_440 rfl (dq_isa tf_174_0 wa_15_98) (Nat.le_trans (by decide) hF) (ml_le wm_98 (Nat.le_trans (by decide) hLo)) rfl (sp_98 hw (Nat.le_trans (by decide : 0 ≤ 6 - 1) (Nat.sub_le_sub_right hF 1)) (ml_sub wm_98 (Nat.le_trans (by decide : 0 ≤ 131 - 24) (Nat.sub_le_sub_right hLo 24))) (wp_bind h) (fun r80 h => rs_back0 ?_))
                      exact hj171 _ h _ l0 l1 l2
                    ·
                      have h := wp_neg h q
                      refine rs_aldn wi_99_149 l0 ?_
                      refine rs_pure wi_99_150 rfl ?_
                      refine rs_topi (v := 4) (by decide) ?_
                      refine rs_ild wi_99_151 l4 ?_
                      refine rs_ild wi_99_153 l7 ?_
                      refine rs_pure wi_99_155 rfl ?_
                      refine rs_V wi_99_156 wc_99_440 rfl (dq_isa tf_174_0 wa_15_98) (Nat.le_trans (by decide) hF) (ml_le wm_98 (Nat.le_trans (by decide) hLo)) rfl (sp_98 hw (Nat.le_trans (by decide : 0 ≤ 6 - 1) (Nat.sub_le_sub_right hF 1)) (ml_sub wm_98 (Nat.le_trans (by decide : 0 ≤ 131 - 24) (Nat.sub_le_sub_right hLo 24))) (wp_bind h) (fun r81 h => rs_back0 ?_))
                      refine rs_goto (tg := 171) wi_99_159 ⟨by decide, by decide⟩ ?_
                      exact hj171 _ h _ l0 l1 l2
                  refine rs_icle (tg := 136) wi_99_129 ⟨by decide, by decide⟩ (fun q => ?_) (fun q => ?_)
                  ·
                    have h := wp_pos h q
                    refine rs_aldn wi_99_136 l0 ?_
                    refine rs_lld wi_99_137 l5 ?_
                    refine rs_V wi_99_139 wc_99_436 rfl (dq_isa tf_174_0 wa_15_371) (Nat.le_trans (by decide) hF) (ml_le wm_371 (Nat.le_trans (by decide) hLo)) rfl (sp_371 hw (Nat.le_trans (by decide : 5 ≤ 6 - 1) (Nat.sub_le_sub_right hF 1)) (ml_sub wm_371 (Nat.le_trans (by decide : 108 ≤ 131 - 23) (Nat.sub_le_sub_right hLo 23))) (wp_bind h) (fun v82 h => rs_back1 ?_))
                    exact hj142 _ h _ l0 l1 l2 l4 l5
                  ·
                    have h := wp_neg h q
                    refine rs_pure wi_99_132 rfl ?_
                    refine rs_topi (v := (-1)) (by decide) ?_
                    refine rs_goto (tg := 142) wi_99_133 ⟨by decide, by decide⟩ ?_
                    exact hj142 _ h _ l0 l1 l2 l4 l5
                refine rs_icle (tg := 123) wi_99_113 ⟨by decide, by decide⟩ (fun q => ?_) (fun q => ?_)
                ·
                  have h := wp_pos h q
                  exact hj123 _ h _ l0 l1 l2 l4 l5
                ·
                  have h := wp_neg h q
                  refine rs_aldn wi_99_116 l0 ?_
                  refine rs_pure wi_99_117 rfl ?_
                  refine rs_topi (v := 1) (by decide) ?_
                  refine rs_ild wi_99_118 l4 ?_
                  refine rs_V wi_99_120 wc_99_432 rfl (dq_isa tf_174_0 wa_15_97) (Nat.le_trans (by decide) hF) (ml_le wm_97 (Nat.le_trans (by decide) hLo)) rfl (sp_97 hw (Nat.le_trans (by decide : 0 ≤ 6 - 1) (Nat.sub_le_sub_right hF 1)) (ml_sub wm_97 (Nat.le_trans (by decide : 0 ≤ 131 - 22) (Nat.sub_le_sub_right hLo 22))) (wp_bind h) (fun r83 h => rs_back0 ?_))
                  exact hj123 _ h _ l0 l1 l2 l4 l5
          ·
            have h := wp_pos h q
            exact hj41 _ h _ l0 l1 l2
  ·
    intro x84 h lv l0 l1
    refine rs_aldn wi_99_419 l0 ?_
    refine rs_pure wi_99_420 rfl ?_
    refine rs_topi (v := 5) (by decide) ?_
    refine rs_ildn wi_99_421 l1 ?_
    refine rs_pure wi_99_422 rfl ?_
    refine rs_topl (v := 0) (by decide) ?_
    refine rs_V wi_99_423 wc_99_440 rfl (dq_isa tf_174_0 wa_15_98) (Nat.le_trans (by decide) hF) (ml_le wm_98 (Nat.le_trans (by decide) hLo)) rfl (sp_98 hw (Nat.le_trans (by decide : 0 ≤ 6 - 1) (Nat.sub_le_sub_right hF 1)) (ml_sub wm_98 (Nat.le_trans (by decide : 0 ≤ 131 - 24) (Nat.sub_le_sub_right hLo 24))) (wp_bind h) (fun r85 h => rs_back0 ?_))
    exact rs_vret wi_99_426 wr_99 (hQ r85 h)
end D51
