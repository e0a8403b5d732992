/-! THE CODE AS PURE PROGRAMS, 7: by wip/whole/dc.py -/
section D48
variable {sc : Nat × (Nat → Int32)} {fm : Value}
theorem wa_10_292 : rz_cn 10 (rx_yn (rt_P sc fm) 292).cls = true := (by decide +kernel : rz_cn 10 (rt_yn 292).cls = true)
theorem wa_4_178 : rz_cn 4 (rx_yn (rt_P sc fm) 178).cls = true := (by decide +kernel : rz_cn 4 (rt_yn 178).cls = true)
theorem wa_7_222 : rz_cn 7 (rx_yn (rt_P sc fm) 222).cls = true := (by decide +kernel : rz_cn 7 (rt_yn 222).cls = true)
theorem wa_7_223 : rz_cn 7 (rx_yn (rt_P sc fm) 223).cls = true := (by decide +kernel : rz_cn 7 (rt_yn 223).cls = true)
theorem wc_65_108 : rx_ct (rt_P sc fm) 65 108 = some (0, 90, 0) := (by decide +kernel : rt_ct 65 108 = some (0, 90, 0))
theorem wc_65_146 : rx_ct (rt_P sc fm) 65 146 = some (0, 21, 1) := (by decide +kernel : rt_ct 65 146 = some (0, 21, 1))
theorem wc_65_208 : rx_ct (rt_P sc fm) 65 208 = some (0, 292, 2) := (by decide +kernel : rt_ct 65 208 = some (0, 292, 2))
theorem wc_65_218 : rx_ct (rt_P sc fm) 65 218 = some (0, 223, 1) := (by decide +kernel : rt_ct 65 218 = some (0, 223, 1))
theorem wc_65_221 : rx_ct (rt_P sc fm) 65 221 = some (0, 222, 1) := (by decide +kernel : rt_ct 65 221 = some (0, 222, 1))
theorem wc_65_224 : rx_ct (rt_P sc fm) 65 224 = some (0, 178, 2) := (by decide +kernel : rt_ct 65 224 = some (0, 178, 2))
theorem wf_65_12 : rx_ft (rt_P sc fm) 65 12 = some (14, 0) := (by decide +kernel : rt_ft 65 12 = some (14, 0))
theorem wf_65_150 : rx_ft (rt_P sc fm) 65 150 = some (7, 10) := (by decide +kernel : rt_ft 65 150 = some (7, 10))
theorem wf_65_212 : rx_ft (rt_P sc fm) 65 212 = some (10, 6) := (by decide +kernel : rt_ft 65 212 = some (10, 6))
theorem wf_65_215 : rx_ft (rt_P sc fm) 65 215 = some (3, 0) := (by decide +kernel : rt_ft 65 215 = some (3, 0))
theorem wf_65_28 : rx_ft (rt_P sc fm) 65 28 = some (14, 2) := (by decide +kernel : rt_ft 65 28 = some (14, 2))
theorem wf_65_35 : rx_ft (rt_P sc fm) 65 35 = some (14, 3) := (by decide +kernel : rt_ft 65 35 = some (14, 3))
theorem wf_65_44 : rx_ft (rt_P sc fm) 65 44 = some (14, 4) := (by decide +kernel : rt_ft 65 44 = some (14, 4))
theorem wf_65_53 : rx_ft (rt_P sc fm) 65 53 = some (14, 5) := (by decide +kernel : rt_ft 65 53 = some (14, 5))
theorem wf_65_95 : rx_ft (rt_P sc fm) 65 95 = some (3, 1) := (by decide +kernel : rt_ft 65 95 = some (3, 1))
theorem wi_65_0 : ri (rt_P sc fm) 65 0 (.aload_n 0) (1) := ri_of (by decide +kernel) rfl
theorem wi_65_1 : ri (rt_P sc fm) 65 1 (.getfield 12) (4) := ri_of (by decide +kernel) rfl
theorem wi_65_100 : ri (rt_P sc fm) 65 100 (.iload_n 2) (101) := ri_of (by decide +kernel) rfl
theorem wi_65_101 : ri (rt_P sc fm) 65 101 (.iload_n 1) (102) := ri_of (by decide +kernel) rfl
theorem wi_65_102 : ri (rt_P sc fm) 65 102 (.invokevirtual 208) (105) := ri_of (by decide +kernel) rfl
theorem wi_65_105 : ri (rt_P sc fm) 65 105 (.aload_n 0) (106) := ri_of (by decide +kernel) rfl
theorem wi_65_106 : ri (rt_P sc fm) 65 106 (.getfield 53) (109) := ri_of (by decide +kernel) rfl
theorem wi_65_109 : ri (rt_P sc fm) 65 109 (.iload_n 1) (110) := ri_of (by decide +kernel) rfl
theorem wi_65_110 : ri (rt_P sc fm) 65 110 (.iload_n 3) (111) := ri_of (by decide +kernel) rfl
theorem wi_65_111 : ri (rt_P sc fm) 65 111 (.invokevirtual 224) (114) := ri_of (by decide +kernel) rfl
theorem wi_65_114 : ri (rt_P sc fm) 65 114 (.aload_n 0) (115) := ri_of (by decide +kernel) rfl
theorem wi_65_115 : ri (rt_P sc fm) 65 115 (.invokevirtual 108) (118) := ri_of (by decide +kernel) rfl
theorem wi_65_118 : ri (rt_P sc fm) 65 118 (.aload_n 0) (119) := ri_of (by decide +kernel) rfl
theorem wi_65_119 : ri (rt_P sc fm) 65 119 (.getfield 35) (122) := ri_of (by decide +kernel) rfl
theorem wi_65_12 : ri (rt_P sc fm) 65 12 (.iconst 0) (13) := ri_of (by decide +kernel) rfl
theorem wi_65_122 : ri (rt_P sc fm) 65 122 (.getfield 150) (125) := ri_of (by decide +kernel) rfl
theorem wi_65_125 : ri (rt_P sc fm) 65 125 (.iload_n 1) (126) := ri_of (by decide +kernel) rfl
theorem wi_65_126 : ri (rt_P sc fm) 65 126 (.iaload) (127) := ri_of (by decide +kernel) rfl
theorem wi_65_127 : ri (rt_P sc fm) 65 127 (.ireturn) (128) := ri_of (by decide +kernel) rfl
theorem wi_65_13 : ri (rt_P sc fm) 65 13 (.putfield 95) (16) := ri_of (by decide +kernel) rfl
theorem wi_65_16 : ri (rt_P sc fm) 65 16 (.aload_n 0) (17) := ri_of (by decide +kernel) rfl
theorem wi_65_17 : ri (rt_P sc fm) 65 17 (.getfield 28) (20) := ri_of (by decide +kernel) rfl
theorem wi_65_20 : ri (rt_P sc fm) 65 20 (.iload_n 1) (21) := ri_of (by decide +kernel) rfl
theorem wi_65_21 : ri (rt_P sc fm) 65 21 (.invokevirtual 146) (24) := ri_of (by decide +kernel) rfl
theorem wi_65_24 : ri (rt_P sc fm) 65 24 (.istore_n 3) (25) := ri_of (by decide +kernel) rfl
theorem wi_65_25 : ri (rt_P sc fm) 65 25 (.iload_n 3) (26) := ri_of (by decide +kernel) rfl
theorem wi_65_26 : ri (rt_P sc fm) 65 26 (.ifCond .ge 5) (29) := ri_of (by decide +kernel) rfl
theorem wi_65_29 : ri (rt_P sc fm) 65 29 (.iconst (-1)) (30) := ri_of (by decide +kernel) rfl
theorem wi_65_30 : ri (rt_P sc fm) 65 30 (.ireturn) (31) := ri_of (by decide +kernel) rfl
theorem wi_65_31 : ri (rt_P sc fm) 65 31 (.aload_n 0) (32) := ri_of (by decide +kernel) rfl
theorem wi_65_32 : ri (rt_P sc fm) 65 32 (.getfield 44) (35) := ri_of (by decide +kernel) rfl
theorem wi_65_35 : ri (rt_P sc fm) 65 35 (.iload_n 2) (36) := ri_of (by decide +kernel) rfl
theorem wi_65_36 : ri (rt_P sc fm) 65 36 (.iconst (-1)) (37) := ri_of (by decide +kernel) rfl
theorem wi_65_37 : ri (rt_P sc fm) 65 37 (.invokevirtual 208) (40) := ri_of (by decide +kernel) rfl
theorem wi_65_4 : ri (rt_P sc fm) 65 4 (.getfield 95) (7) := ri_of (by decide +kernel) rfl
theorem wi_65_40 : ri (rt_P sc fm) 65 40 (.aload_n 0) (41) := ri_of (by decide +kernel) rfl
theorem wi_65_41 : ri (rt_P sc fm) 65 41 (.getfield 44) (44) := ri_of (by decide +kernel) rfl
theorem wi_65_44 : ri (rt_P sc fm) 65 44 (.getfield 212) (47) := ri_of (by decide +kernel) rfl
theorem wi_65_47 : ri (rt_P sc fm) 65 47 (.ifCond .lt 15) (50) := ri_of (by decide +kernel) rfl
theorem wi_65_50 : ri (rt_P sc fm) 65 50 (.sipush (-1000)) (53) := ri_of (by decide +kernel) rfl
theorem wi_65_53 : ri (rt_P sc fm) 65 53 (.aload_n 0) (54) := ri_of (by decide +kernel) rfl
theorem wi_65_54 : ri (rt_P sc fm) 65 54 (.getfield 44) (57) := ri_of (by decide +kernel) rfl
theorem wi_65_57 : ri (rt_P sc fm) 65 57 (.getfield 212) (60) := ri_of (by decide +kernel) rfl
theorem wi_65_60 : ri (rt_P sc fm) 65 60 (.isub) (61) := ri_of (by decide +kernel) rfl
theorem wi_65_61 : ri (rt_P sc fm) 65 61 (.ireturn) (62) := ri_of (by decide +kernel) rfl
theorem wi_65_62 : ri (rt_P sc fm) 65 62 (.aload_n 0) (63) := ri_of (by decide +kernel) rfl
theorem wi_65_63 : ri (rt_P sc fm) 65 63 (.getfield 12) (66) := ri_of (by decide +kernel) rfl
theorem wi_65_66 : ri (rt_P sc fm) 65 66 (.getfield 215) (69) := ri_of (by decide +kernel) rfl
theorem wi_65_69 : ri (rt_P sc fm) 65 69 (.iconst 0) (70) := ri_of (by decide +kernel) rfl
theorem wi_65_7 : ri (rt_P sc fm) 65 7 (.istore_n 2) (8) := ri_of (by decide +kernel) rfl
theorem wi_65_70 : ri (rt_P sc fm) 65 70 (.baload) (71) := ri_of (by decide +kernel) rfl
theorem wi_65_71 : ri (rt_P sc fm) 65 71 (.sipush 255) (74) := ri_of (by decide +kernel) rfl
theorem wi_65_74 : ri (rt_P sc fm) 65 74 (.iand) (75) := ri_of (by decide +kernel) rfl
theorem wi_65_75 : ri (rt_P sc fm) 65 75 (.aload_n 0) (76) := ri_of (by decide +kernel) rfl
theorem wi_65_76 : ri (rt_P sc fm) 65 76 (.getfield 35) (79) := ri_of (by decide +kernel) rfl
theorem wi_65_79 : ri (rt_P sc fm) 65 79 (.iload_n 1) (80) := ri_of (by decide +kernel) rfl
theorem wi_65_8 : ri (rt_P sc fm) 65 8 (.aload_n 0) (9) := ri_of (by decide +kernel) rfl
theorem wi_65_80 : ri (rt_P sc fm) 65 80 (.invokevirtual 218) (83) := ri_of (by decide +kernel) rfl
theorem wi_65_83 : ri (rt_P sc fm) 65 83 (.if_icmp .le 5) (86) := ri_of (by decide +kernel) rfl
theorem wi_65_86 : ri (rt_P sc fm) 65 86 (.iconst (-1)) (87) := ri_of (by decide +kernel) rfl
theorem wi_65_87 : ri (rt_P sc fm) 65 87 (.ireturn) (88) := ri_of (by decide +kernel) rfl
theorem wi_65_88 : ri (rt_P sc fm) 65 88 (.aload_n 0) (89) := ri_of (by decide +kernel) rfl
theorem wi_65_89 : ri (rt_P sc fm) 65 89 (.getfield 35) (92) := ri_of (by decide +kernel) rfl
theorem wi_65_9 : ri (rt_P sc fm) 65 9 (.getfield 12) (12) := ri_of (by decide +kernel) rfl
theorem wi_65_92 : ri (rt_P sc fm) 65 92 (.iload_n 1) (93) := ri_of (by decide +kernel) rfl
theorem wi_65_93 : ri (rt_P sc fm) 65 93 (.invokevirtual 221) (96) := ri_of (by decide +kernel) rfl
theorem wi_65_96 : ri (rt_P sc fm) 65 96 (.aload_n 0) (97) := ri_of (by decide +kernel) rfl
theorem wi_65_97 : ri (rt_P sc fm) 65 97 (.getfield 44) (100) := ri_of (by decide +kernel) rfl
theorem wm_178 : rx_ml (rt_P sc fm) 178 = 6 := (by decide +kernel : rt_ml 178 = 6)
theorem wm_222 : rx_ml (rt_P sc fm) 222 = 2 := (by decide +kernel : rt_ml 222 = 2)
theorem wm_223 : rx_ml (rt_P sc fm) 223 = 2 := (by decide +kernel : rt_ml 223 = 2)
theorem wm_292 : rx_ml (rt_P sc fm) 292 = 5 := (by decide +kernel : rt_ml 292 = 5)
theorem wp_65_95 : rx_pt (rt_P sc fm) 65 95 = some (3, 1, .int) := (by decide +kernel : rt_pt 65 95 = some (3, 1, .int))
theorem wr_65 : rx_rt (rt_P sc fm) 65 = (some FieldType.int) := (by decide +kernel : rt_rt 65 = (some FieldType.int))
/-- MarkHouse.give(I)I -/
def d_65 (n : Nat) (a1 : Int32) (c : cS) : Option (Int32 × cS) :=
  lt ((c.1 1 1) : Int32) (fun v2 =>
  lt (pI c 1 1 0) (fun c4 =>
  Option.bind (d_21 n a1 c4) (fun v6 =>
  if 0 ≤ v6 then
    Option.bind (d_292 n v2 (-1) c4) (fun r8 =>
    if (r8.1 145 6) < 0 then
      if ib 0 4000 then
      Option.bind (d_223 n a1 r8) (fun v10 =>
      if ((r8.1 2 (ix 0)) &&& 255) ≤ v10 then
        Option.bind (d_222 n a1 r8) (fun r11 =>
        Option.bind (d_292 n v2 a1 r11) (fun r12 =>
        Option.bind (d_178 n a1 v6 r12) (fun r13 =>
        Option.bind (d_90 n r13) (fun r14 =>
        if ib a1 2242 then
        some ((r14.1 144 (ix a1)), r14)
        else none))))
      else
        some ((-1), r8))
      else none
    else
      some (((-1000) - (r8.1 145 6)), r8))
  else
    some ((-1), c4))))
theorem sp_65 {F Lo n : Nat} {a1 : Int32} {c y : cS} {w : cW} {K : Int32 × cS → Prop} {Q : ((Option Value) ⊕ String) → List va_E → Prop} (hw : rOK fm w) (hF : 5 ≤ F) (hLo : 127 ≤ Lo)  (h : wp (d_65 n a1 c) K) (hQ : ∀ r, K r → Q (.inl (some (.int r.1))) (hq true r.2 y w)) : rs (rt_P sc fm) 65 F Lo 0 [(0, .ref 0), (1, .int a1)] [] (hq true c y w) Q := by
  unfold d_65 at h
  obtain ⟨lv, elv⟩ : ∃ lv : rx_L, lv = [(0, .ref 0), (1, .int a1)] := ⟨_, rfl⟩
  rw [← elv]
  have l0 : rx_ld lv 0 = some (.ref 0) := by rw [elv]; rfl
  have l1 : rx_ld lv 1 = some (.int a1) := by rw [elv]; rfl
  refine rs_aldn wi_65_0 l0 ?_
  refine dq_gr wi_65_1 wf_65_12 tf_0_0 ?_
  refine dq_gi wi_65_4 wf_65_95 tf_1_1 ?_
  obtain ⟨v2, e3, h⟩ := wp_lt h
  refine rs_topi e3 ?_
  refine dl_istn wi_65_7 rfl (fun lv l2 t1 => ?_)
  have l0 := t1 _ _ (by decide) (Or.inl rfl) l0
  have l1 := t1 _ _ (by decide) (Or.inl rfl) l1
  refine rs_aldn wi_65_8 l0 ?_
  refine dq_gr wi_65_9 wf_65_12 tf_0_0 ?_
  refine rs_pure wi_65_12 rfl ?_
  refine rs_topi (v := 0) (by decide) ?_
  obtain ⟨c4, e5, h⟩ := wp_lt h
  refine dq_pi wi_65_13 wp_65_95 tf_1_1 rfl rfl e5 ?_
  refine rs_aldn wi_65_16 l0 ?_
  refine dq_gr wi_65_17 wf_65_28 tf_0_2 ?_
  refine rs_ildn wi_65_20 l1 ?_
  refine rs_V wi_65_21 wc_65_146 rfl (dq_isa tf_114_0 wa_2_21) (Nat.le_trans (by decide) hF) (ml_le wm_21 (Nat.le_trans (by decide) hLo)) rfl (sp_21 hw (Nat.le_trans (by decide : 1 ≤ 5 - 1) (Nat.sub_le_sub_right hF 1)) (ml_sub wm_21 (Nat.le_trans (by decide : 21 ≤ 127 - 23) (Nat.sub_le_sub_right hLo 23))) (wp_bind h) (fun v6 h => rs_back1 ?_))
  refine dl_istn wi_65_24 rfl (fun lv l3 t7 => ?_)
  have l0 := t7 _ _ (by decide) (Or.inl rfl) l0
  have l1 := t7 _ _ (by decide) (Or.inl rfl) l1
  have l2 := t7 _ _ (by decide) (Or.inl rfl) l2
  refine rs_ildn wi_65_25 l3 ?_
  refine rs_ifge (tg := 31) wi_65_26 ⟨by decide, by decide⟩ (fun q => ?_) (fun q => ?_)
  ·
    have h := wp_pos h q
    refine rs_aldn wi_65_31 l0 ?_
    refine dq_gr wi_65_32 wf_65_44 tf_0_4 ?_
    refine rs_ildn wi_65_35 l2 ?_
    refine rs_pure wi_65_36 rfl ?_
    refine rs_topi (v := (-1)) (by decide) ?_
    refine rs_V wi_65_37 wc_65_208 rfl (dq_isa tf_145_0 wa_10_292) (Nat.le_trans (by decide) hF) (ml_le wm_292 (Nat.le_trans (by decide) hLo)) rfl (sp_292 hw (Nat.le_trans (by decide : 4 ≤ 5 - 1) (Nat.sub_le_sub_right hF 1)) (ml_sub wm_292 (Nat.le_trans (by decide : 103 ≤ 127 - 24) (Nat.sub_le_sub_right hLo 24))) (wp_bind h) (fun r8 h => rs_back0 ?_))
    refine rs_aldn wi_65_40 l0 ?_
    refine dq_gr wi_65_41 wf_65_44 tf_0_4 ?_
    refine dq_gi wi_65_44 wf_65_212 tf_145_6 ?_
    refine rs_iflt (tg := 62) wi_65_47 ⟨by decide, by decide⟩ (fun q => ?_) (fun q => ?_)
    ·
      have h := wp_pos h q
      refine rs_aldn wi_65_62 l0 ?_
      refine dq_gr wi_65_63 wf_65_12 tf_0_0 ?_
      refine dq_gr wi_65_66 wf_65_215 tf_1_0 ?_
      refine rs_pure wi_65_69 rfl ?_
      refine rs_topi (v := 0) (by decide) ?_
      obtain ⟨g9, h⟩ := wp_gd h
      refine dq_bald wi_65_70 t_2 g9 ?_
      refine rs_pure wi_65_71 rfl ?_
      refine rs_topi (v := 255) (by decide) ?_
      refine rs_pure wi_65_74 rfl ?_
      refine rs_aldn wi_65_75 l0 ?_
      refine dq_gr wi_65_76 wf_65_35 tf_0_3 ?_
      refine rs_ildn wi_65_79 l1 ?_
      refine rs_V wi_65_80 wc_65_218 rfl (dq_isa tf_133_0 wa_7_223) (Nat.le_trans (by decide) hF) (ml_le wm_223 (Nat.le_trans (by decide) hLo)) rfl (sp_223 hw (Nat.le_trans (by decide : 0 ≤ 5 - 1) (Nat.sub_le_sub_right hF 1)) (ml_sub wm_223 (Nat.le_trans (by decide : 0 ≤ 127 - 21) (Nat.sub_le_sub_right hLo 21))) (wp_bind h) (fun v10 h => rs_back1 ?_))
      refine rs_icle (tg := 88) wi_65_83 ⟨by decide, by decide⟩ (fun q => ?_) (fun q => ?_)
      ·
        have h := wp_pos h q
        refine rs_aldn wi_65_88 l0 ?_
        refine dq_gr wi_65_89 wf_65_35 tf_0_3 ?_
        refine rs_ildn wi_65_92 l1 ?_
        refine rs_V wi_65_93 wc_65_221 rfl (dq_isa tf_133_0 wa_7_222) (Nat.le_trans (by decide) hF) (ml_le wm_222 (Nat.le_trans (by decide) hLo)) rfl (sp_222 hw (Nat.le_trans (by decide : 0 ≤ 5 - 1) (Nat.sub_le_sub_right hF 1)) (ml_sub wm_222 (Nat.le_trans (by decide : 0 ≤ 127 - 21) (Nat.sub_le_sub_right hLo 21))) (wp_bind h) (fun r11 h => rs_back0 ?_))
        refine rs_aldn wi_65_96 l0 ?_
        refine dq_gr wi_65_97 wf_65_44 tf_0_4 ?_
        refine rs_ildn wi_65_100 l2 ?_
        refine rs_ildn wi_65_101 l1 ?_
        refine rs_V wi_65_102 wc_65_208 rfl (dq_isa tf_145_0 wa_10_292) (Nat.le_trans (by decide) hF) (ml_le wm_292 (Nat.le_trans (by decide) hLo)) rfl (sp_292 hw (Nat.le_trans (by decide : 4 ≤ 5 - 1) (Nat.sub_le_sub_right hF 1)) (ml_sub wm_292 (Nat.le_trans (by decide : 103 ≤ 127 - 24) (Nat.sub_le_sub_right hLo 24))) (wp_bind h) (fun r12 h => rs_back0 ?_))
        refine rs_aldn wi_65_105 l0 ?_
        refine dq_gr wi_65_106 wf_65_53 tf_0_5 ?_
        refine rs_ildn wi_65_109 l1 ?_
        refine rs_ildn wi_65_110 l3 ?_
        refine rs_V wi_65_111 wc_65_224 rfl (dq_isa tf_146_0 wa_4_178) (Nat.le_trans (by decide) hF) (ml_le wm_178 (Nat.le_trans (by decide) hLo)) rfl (sp_178 hw (Nat.le_trans (by decide : 2 ≤ 5 - 1) (Nat.sub_le_sub_right hF 1)) (ml_sub wm_178 (Nat.le_trans (by decide : 46 ≤ 127 - 25) (Nat.sub_le_sub_right hLo 25))) (wp_bind h) (fun r13 h => rs_back0 ?_))
        refine rs_aldn wi_65_114 l0 ?_
        refine rs_V wi_65_115 wc_65_108 rfl (dq_isa tf_0_0 wa_14_90) (Nat.le_trans (by decide) hF) (ml_le wm_90 (Nat.le_trans (by decide) hLo)) rfl (sp_90 hw (Nat.le_trans (by decide : 3 ≤ 5 - 1) (Nat.sub_le_sub_right hF 1)) (ml_sub wm_90 (Nat.le_trans (by decide : 66 ≤ 127 - 20) (Nat.sub_le_sub_right hLo 20))) (wp_bind h) (fun r14 h => rs_back0 ?_))
        refine rs_aldn wi_65_118 l0 ?_
        refine dq_gr wi_65_119 wf_65_35 tf_0_3 ?_
        refine dq_gr wi_65_122 wf_65_150 tf_133_10 ?_
        refine rs_ildn wi_65_125 l1 ?_
        obtain ⟨g15, h⟩ := wp_gd h
        refine dq_iald wi_65_126 t_144 g15 ?_
        exact rs_iret wi_65_127 wr_65 rfl (hQ ((r14.1 144 (ix a1)), r14) h)
      ·
        have h := wp_neg h q
        refine rs_pure wi_65_86 rfl ?_
        refine rs_topi (v := (-1)) (by decide) ?_
        exact rs_iret wi_65_87 wr_65 rfl (hQ ((-1), r8) h)
    ·
      have h := wp_neg h q
      refine rs_pure wi_65_50 rfl ?_
      refine rs_topi (v := (-1000)) (by decide) ?_
      refine rs_aldn wi_65_53 l0 ?_
      refine dq_gr wi_65_54 wf_65_44 tf_0_4 ?_
      refine dq_gi wi_65_57 wf_65_212 tf_145_6 ?_
      refine rs_pure wi_65_60 rfl ?_
      exact rs_iret wi_65_61 wr_65 rfl (hQ (((-1000) - (r8.1 145 6)), r8) h)
  ·
    have h := wp_neg h q
    refine rs_pure wi_65_29 rfl ?_
    refine rs_topi (v := (-1)) (by decide) ?_
    exact rs_iret wi_65_30 wr_65 rfl (hQ ((-1), c4) h)
theorem wc_339_39 : rx_ct (rt_P sc fm) 339 39 = some (0, 317, 1) := (by decide +kernel : rt_ct 339 39 = some (0, 317, 1))
theorem wc_339_47 : rx_ct (rt_P sc fm) 339 47 = some (0, 318, 1) := (by decide +kernel : rt_ct 339 47 = some (0, 318, 1))
theorem wi_339_0 : ri (rt_P sc fm) 339 0 (.iconst 0) (1) := ri_of (by decide +kernel) rfl
theorem wi_339_1 : ri (rt_P sc fm) 339 1 (.istore_n 3) (2) := ri_of (by decide +kernel) rfl
theorem wi_339_12 : ri (rt_P sc fm) 339 12 (.iinc 3 1) (15) := ri_of (by decide +kernel) rfl
theorem wi_339_15 : ri (rt_P sc fm) 339 15 (.lload 4) (17) := ri_of (by decide +kernel) rfl
theorem wi_339_17 : ri (rt_P sc fm) 339 17 (.bipush 8) (19) := ri_of (by decide +kernel) rfl
theorem wi_339_19 : ri (rt_P sc fm) 339 19 (.lushr) (20) := ri_of (by decide +kernel) rfl
theorem wi_339_2 : ri (rt_P sc fm) 339 2 (.lload_n 1) (3) := ri_of (by decide +kernel) rfl
theorem wi_339_20 : ri (rt_P sc fm) 339 20 (.lstore 4) (22) := ri_of (by decide +kernel) rfl
theorem wi_339_22 : ri (rt_P sc fm) 339 22 (.goto (-17)) (25) := ri_of (by decide +kernel) rfl
theorem wi_339_25 : ri (rt_P sc fm) 339 25 (.aload_n 0) (26) := ri_of (by decide +kernel) rfl
theorem wi_339_26 : ri (rt_P sc fm) 339 26 (.iload_n 3) (27) := ri_of (by decide +kernel) rfl
theorem wi_339_27 : ri (rt_P sc fm) 339 27 (.invokevirtual 39) (30) := ri_of (by decide +kernel) rfl
theorem wi_339_3 : ri (rt_P sc fm) 339 3 (.lstore 4) (5) := ri_of (by decide +kernel) rfl
theorem wi_339_30 : ri (rt_P sc fm) 339 30 (.aload_n 0) (31) := ri_of (by decide +kernel) rfl
theorem wi_339_31 : ri (rt_P sc fm) 339 31 (.lload_n 1) (32) := ri_of (by decide +kernel) rfl
theorem wi_339_32 : ri (rt_P sc fm) 339 32 (.invokevirtual 47) (35) := ri_of (by decide +kernel) rfl
theorem wi_339_35 : ri (rt_P sc fm) 339 35 (.return_) (36) := ri_of (by decide +kernel) rfl
theorem wi_339_5 : ri (rt_P sc fm) 339 5 (.lload 4) (7) := ri_of (by decide +kernel) rfl
theorem wi_339_7 : ri (rt_P sc fm) 339 7 (.lconst 0) (8) := ri_of (by decide +kernel) rfl
theorem wi_339_8 : ri (rt_P sc fm) 339 8 (.lcmp) (9) := ri_of (by decide +kernel) rfl
theorem wi_339_9 : ri (rt_P sc fm) 339 9 (.ifCond .eq 16) (12) := ri_of (by decide +kernel) rfl
theorem wr_339 : rx_rt (rt_P sc fm) 339 = none := (by decide +kernel : rt_rt 339 = none)
/-- MarkHouse$Teller.putCounted(J)V -/
def d_339 (n : Nat) (a1 : Int64) (c : cS) : Option (cS) :=
  Option.bind (whl (R := (Int32)) (fun s3 : Int32 × Int64 =>
    if (lg_cmp s3.2 0) = 0 then
      some (.inr s3.1)
    else
      lt (s3.1 + 1 : Int32) (fun v5 =>
      lt (((s3.2 : Int64).toUInt64 >>> ((8 : Int32).toInt64.toUInt64 &&& Int64.toUInt64 63)).toInt64 : Int64) (fun v8 =>
      some (.inl (v5, v8))))) n (0, a1))
  (fun x10 : Int32 =>
    Option.bind (d_317 n x10 c) (fun r11 =>
    Option.bind (d_318 n a1 r11) (fun r12 =>
    some r12)))
theorem sp_339 {F Lo n : Nat} {a1 : Int64} {c y : cS} {w : cW} {K : cS → Prop} {Q : ((Option Value) ⊕ String) → List va_E → Prop} (hw : rOK fm w) (hF : 2 ≤ F) (hLo : 45 ≤ Lo)  (h : wp (d_339 n a1 c) K) (hQ : ∀ r, K r → Q (.inl none) (hq true r y w)) : rs (rt_P sc fm) 339 F Lo 0 [(0, .ref 172), (1, .long a1)] [] (hq true c y w) Q := by
  unfold d_339 at h
  obtain ⟨lv, elv⟩ : ∃ lv : rx_L, lv = [(0, .ref 172), (1, .long a1)] := ⟨_, rfl⟩
  rw [← elv]
  have l0 : rx_ld lv 0 = some (.ref 172) := by rw [elv]; rfl
  have l1 : rx_ld lv 1 = some (.long a1) := by rw [elv]; rfl
  refine rs_pure wi_339_0 rfl ?_
  refine rs_topi (v := 0) (by decide) ?_
  refine dl_istn wi_339_1 rfl (fun lv l3 t1 => ?_)
  have l0 := t1 _ _ (by decide) (Or.inl rfl) l0
  have l1 := t1 _ _ (by decide) (Or.inr (by decide)) l1
  refine rs_lldn wi_339_2 l1 ?_
  refine dl_lst wi_339_3 rfl (fun lv l4 t2 => ?_)
  have l0 := t2 _ _ (by decide) (by decide) (Or.inl rfl) l0
  have l1 := t2 _ _ (by decide) (by decide) (Or.inr (by decide)) l1
  have l3 := t2 _ _ (by decide) (by decide) (Or.inl rfl) l3
  refine whl_ex (A := fun s3 : Int32 × Int64 => ∀ lv, rx_ld lv 0 = some (.ref 172) → rx_ld lv 1 = some (.long a1) → rx_ld lv 3 = some (.int s3.1) → rx_ld lv 4 = some (.long s3.2) → rs (rt_P sc fm) 339 F Lo 5 lv [] (hq true c y w) Q) (B := (fun x10 : Int32 => ∀ lv, rx_ld lv 0 = some (.ref 172) → rx_ld lv 1 = some (.long a1) → rx_ld lv 3 = some (.int x10) → rs (rt_P sc fm) 339 F Lo 25 lv [] (hq true c y w) Q)) ?_ ?_ _ _ (wp_bind h) _ l0 l1 l3 l4
  · intro s3 h lv l0 l1 l3 l4
    refine rs_lld wi_339_5 l4 ?_
    refine rs_pure wi_339_7 rfl ?_
    refine rs_topl (v := 0) (by decide) ?_
    refine rs_pure wi_339_8 rfl ?_
    refine rs_ifeq (tg := 25) wi_339_9 ⟨by decide, by decide⟩ (fun q => ?_) (fun q => ?_)
    ·
      have h := wp_pos h q
      exact h _ l0 l1 l3
    ·
      have h := wp_neg h q
      obtain ⟨v5, e6, h⟩ := wp_lt h
      refine dl_inc wi_339_12 l3 rfl e6 (fun lv l3 t4 => ?_)
      have l0 := t4 _ _ (by decide) (Or.inl rfl) l0
      have l1 := t4 _ _ (by decide) (Or.inr (by decide)) l1
      have l4 := t4 _ _ (by decide) (Or.inr (by decide)) l4
      refine rs_lld wi_339_15 l4 ?_
      refine rs_pure wi_339_17 rfl ?_
      refine rs_topi (v := 8) (by decide) ?_
      refine rs_pure wi_339_19 rfl ?_
      obtain ⟨v8, e9, h⟩ := wp_lt h
      refine rs_topl e9 ?_
      refine dl_lst wi_339_20 rfl (fun lv l4 t7 => ?_)
      have l0 := t7 _ _ (by decide) (by decide) (Or.inl rfl) l0
      have l1 := t7 _ _ (by decide) (by decide) (Or.inr (by decide)) l1
      have l3 := t7 _ _ (by decide) (by decide) (Or.inl rfl) l3
      refine rs_goto (tg := 5) wi_339_22 ⟨by decide, by decide⟩ ?_
      exact h _ l0 l1 l3 l4
  ·
    intro x10 h lv l0 l1 l3
    refine rs_aldn wi_339_25 l0 ?_
    refine rs_ildn wi_339_26 l3 ?_
    refine rs_V wi_339_27 wc_339_39 rfl (dq_isa tf_172_0 wa_12_317) (Nat.le_trans (by decide) hF) (ml_le wm_317 (Nat.le_trans (by decide) hLo)) rfl (sp_317 hw (Nat.le_trans (by decide : 0 ≤ 2 - 1) (Nat.sub_le_sub_right hF 1)) (ml_sub wm_317 (Nat.le_trans (by decide : 0 ≤ 45 - 21) (Nat.sub_le_sub_right hLo 21))) (wp_bind h) (fun r11 h => rs_back0 ?_))
    refine rs_aldn wi_339_30 l0 ?_
    refine rs_lldn wi_339_31 l1 ?_
    refine rs_V wi_339_32 wc_339_47 rfl (dq_isa tf_172_0 wa_12_318) (Nat.le_trans (by decide) hF) (ml_le wm_318 (Nat.le_trans (by decide) hLo)) rfl (sp_318 hw (Nat.le_trans (by decide : 1 ≤ 2 - 1) (Nat.sub_le_sub_right hF 1)) (ml_sub wm_318 (Nat.le_trans (by decide : 21 ≤ 45 - 24) (Nat.sub_le_sub_right hLo 24))) (wp_bind h) (fun r12 h => rs_back0 ?_))
    exact rs_vret wi_339_35 wr_339 (hQ r12 h)
theorem wc_340_39 : rx_ct (rt_P sc fm) 340 39 = some (0, 317, 1) := (by decide +kernel : rt_ct 340 39 = some (0, 317, 1))
theorem wi_340_0 : ri (rt_P sc fm) 340 0 (.bipush 24) (2) := ri_of (by decide +kernel) rfl
theorem wi_340_10 : ri (rt_P sc fm) 340 10 (.lshr) (11) := ri_of (by decide +kernel) rfl
theorem wi_340_11 : ri (rt_P sc fm) 340 11 (.l2i) (12) := ri_of (by decide +kernel) rfl
theorem wi_340_12 : ri (rt_P sc fm) 340 12 (.sipush 255) (15) := ri_of (by decide +kernel) rfl
theorem wi_340_15 : ri (rt_P sc fm) 340 15 (.iand) (16) := ri_of (by decide +kernel) rfl
theorem wi_340_16 : ri (rt_P sc fm) 340 16 (.invokevirtual 39) (19) := ri_of (by decide +kernel) rfl
theorem wi_340_19 : ri (rt_P sc fm) 340 19 (.iinc 3 (-8)) (22) := ri_of (by decide +kernel) rfl
theorem wi_340_2 : ri (rt_P sc fm) 340 2 (.istore_n 3) (3) := ri_of (by decide +kernel) rfl
theorem wi_340_22 : ri (rt_P sc fm) 340 22 (.goto (-19)) (25) := ri_of (by decide +kernel) rfl
theorem wi_340_25 : ri (rt_P sc fm) 340 25 (.return_) (26) := ri_of (by decide +kernel) rfl
theorem wi_340_3 : ri (rt_P sc fm) 340 3 (.iload_n 3) (4) := ri_of (by decide +kernel) rfl
theorem wi_340_4 : ri (rt_P sc fm) 340 4 (.ifCond .lt 21) (7) := ri_of (by decide +kernel) rfl
theorem wi_340_7 : ri (rt_P sc fm) 340 7 (.aload_n 0) (8) := ri_of (by decide +kernel) rfl
theorem wi_340_8 : ri (rt_P sc fm) 340 8 (.lload_n 1) (9) := ri_of (by decide +kernel) rfl
theorem wi_340_9 : ri (rt_P sc fm) 340 9 (.iload_n 3) (10) := ri_of (by decide +kernel) rfl
theorem wr_340 : rx_rt (rt_P sc fm) 340 = none := (by decide +kernel : rt_rt 340 = none)
/-- MarkHouse$Teller.putFour(J)V -/
def d_340 (n : Nat) (a1 : Int64) (c : cS) : Option (cS) :=
  Option.bind (whl (R := (cS)) (fun s2 : Int32 × cS =>
    if s2.1 < 0 then
      some (.inr s2.2)
    else
      Option.bind (d_317 n (((a1 >>> ((s2.1 : Int32).toInt64 &&& 63)) : Int64).toInt32 &&& 255) s2.2) (fun r3 =>
      lt (s2.1 + (-8) : Int32) (fun v5 =>
      some (.inl (v5, r3))))) n (24, c))
  (fun x7 : cS =>
    some x7)
theorem sp_340 {F Lo n : Nat} {a1 : Int64} {c y : cS} {w : cW} {K : cS → Prop} {Q : ((Option Value) ⊕ String) → List va_E → Prop} (hw : rOK fm w) (hF : 1 ≤ F) (hLo : 21 ≤ Lo)  (h : wp (d_340 n a1 c) K) (hQ : ∀ r, K r → Q (.inl none) (hq true r y w)) : rs (rt_P sc fm) 340 F Lo 0 [(0, .ref 172), (1, .long a1)] [] (hq true c y w) Q := by
  unfold d_340 at h
  obtain ⟨lv, elv⟩ : ∃ lv : rx_L, lv = [(0, .ref 172), (1, .long a1)] := ⟨_, rfl⟩
  rw [← elv]
  have l0 : rx_ld lv 0 = some (.ref 172) := by rw [elv]; rfl
  have l1 : rx_ld lv 1 = some (.long a1) := by rw [elv]; rfl
  refine rs_pure wi_340_0 rfl ?_
  refine rs_topi (v := 24) (by decide) ?_
  refine dl_istn wi_340_2 rfl (fun lv l3 t1 => ?_)
  have l0 := t1 _ _ (by decide) (Or.inl rfl) l0
  have l1 := t1 _ _ (by decide) (Or.inr (by decide)) l1
  refine whl_ex (A := fun s2 : Int32 × cS => ∀ lv, rx_ld lv 0 = some (.ref 172) → rx_ld lv 1 = some (.long a1) → rx_ld lv 3 = some (.int s2.1) → rs (rt_P sc fm) 340 F Lo 3 lv [] (hq true s2.2 y w) Q) (B := (fun x7 : cS => ∀ lv, rs (rt_P sc fm) 340 F Lo 25 lv [] (hq true x7 y w) Q)) ?_ ?_ _ _ (wp_bind h) _ l0 l1 l3
  · intro s2 h lv l0 l1 l3
    refine rs_ildn wi_340_3 l3 ?_
    refine rs_iflt (tg := 25) wi_340_4 ⟨by decide, by decide⟩ (fun q => ?_) (fun q => ?_)
    ·
      have h := wp_pos h q
      exact h _
    ·
      have h := wp_neg h q
      refine rs_aldn wi_340_7 l0 ?_
      refine rs_lldn wi_340_8 l1 ?_
      refine rs_ildn wi_340_9 l3 ?_
      refine rs_pure wi_340_10 rfl ?_
      refine rs_pure wi_340_11 rfl ?_
      refine rs_pure wi_340_12 rfl ?_
      refine rs_topi (v := 255) (by decide) ?_
      refine rs_pure wi_340_15 rfl ?_
      refine rs_V wi_340_16 wc_340_39 rfl (dq_isa tf_172_0 wa_12_317) (Nat.le_trans (by decide) hF) (ml_le wm_317 (Nat.le_trans (by decide) hLo)) rfl (sp_317 hw (Nat.le_trans (by decide : 0 ≤ 1 - 1) (Nat.sub_le_sub_right hF 1)) (ml_sub wm_317 (Nat.le_trans (by decide : 0 ≤ 21 - 21) (Nat.sub_le_sub_right hLo 21))) (wp_bind h) (fun r3 h => rs_back0 ?_))
      obtain ⟨v5, e6, h⟩ := wp_lt h
      refine dl_inc wi_340_19 l3 rfl e6 (fun lv l3 t4 => ?_)
      have l0 := t4 _ _ (by decide) (Or.inl rfl) l0
      have l1 := t4 _ _ (by decide) (Or.inr (by decide)) l1
      refine rs_goto (tg := 3) wi_340_22 ⟨by decide, by decide⟩ ?_
      exact h _ l0 l1 l3
  ·
    intro x7 h lv
    exact rs_vret wi_340_25 wr_340 (hQ x7 h)
theorem wa_12_339 : rz_cn 12 (rx_yn (rt_P sc fm) 339).cls = true := (by decide +kernel : rz_cn 12 (rt_yn 339).cls = true)
theorem wa_12_340 : rz_cn 12 (rx_yn (rt_P sc fm) 340).cls = true := (by decide +kernel : rz_cn 12 (rt_yn 340).cls = true)
theorem wc_338_224 : rx_ct (rt_P sc fm) 338 224 = some (0, 227, 1) := (by decide +kernel : rt_ct 338 224 = some (0, 227, 1))
theorem wc_338_310 : rx_ct (rt_P sc fm) 338 310 = some (0, 339, 1) := (by decide +kernel : rt_ct 338 310 = some (0, 339, 1))
theorem wc_338_325 : rx_ct (rt_P sc fm) 338 325 = some (0, 340, 1) := (by decide +kernel : rt_ct 338 325 = some (0, 340, 1))
theorem wc_338_39 : rx_ct (rt_P sc fm) 338 39 = some (0, 317, 1) := (by decide +kernel : rt_ct 338 39 = some (0, 317, 1))
theorem wf_338_175 : rx_ft (rt_P sc fm) 338 175 = some (7, 10) := (by decide +kernel : rt_ft 338 175 = some (7, 10))
theorem wf_338_208 : rx_ft (rt_P sc fm) 338 208 = some (7, 8) := (by decide +kernel : rt_ft 338 208 = some (7, 8))
theorem wf_338_221 : rx_ft (rt_P sc fm) 338 221 = some (7, 4) := (by decide +kernel : rt_ft 338 221 = some (7, 4))
theorem wf_338_238 : rx_ft (rt_P sc fm) 338 238 = some (7, 0) := (by decide +kernel : rt_ft 338 238 = some (7, 0))
theorem wf_338_27 : rx_ft (rt_P sc fm) 338 27 = some (12, 5) := (by decide +kernel : rt_ft 338 27 = some (12, 5))
theorem wf_338_313 : rx_ft (rt_P sc fm) 338 313 = some (7, 2) := (by decide +kernel : rt_ft 338 313 = some (7, 2))
theorem wf_338_316 : rx_ft (rt_P sc fm) 338 316 = some (7, 5) := (by decide +kernel : rt_ft 338 316 = some (7, 5))
theorem wf_338_319 : rx_ft (rt_P sc fm) 338 319 = some (7, 6) := (by decide +kernel : rt_ft 338 319 = some (7, 6))
theorem wf_338_322 : rx_ft (rt_P sc fm) 338 322 = some (7, 7) := (by decide +kernel : rt_ft 338 322 = some (7, 7))
theorem wf_338_35 : rx_ft (rt_P sc fm) 338 35 = some (12, 1) := (by decide +kernel : rt_ft 338 35 = some (12, 1))
theorem wi_338_0 : ri (rt_P sc fm) 338 0 (.aload_n 0) (1) := ri_of (by decide +kernel) rfl
theorem wi_338_1 : ri (rt_P sc fm) 338 1 (.iconst 0) (2) := ri_of (by decide +kernel) rfl
theorem wi_338_10 : ri (rt_P sc fm) 338 10 (.getfield 175) (13) := ri_of (by decide +kernel) rfl
theorem wi_338_100 : ri (rt_P sc fm) 338 100 (.getfield 313) (103) := ri_of (by decide +kernel) rfl
theorem wi_338_103 : ri (rt_P sc fm) 338 103 (.iload_n 2) (104) := ri_of (by decide +kernel) rfl
theorem wi_338_104 : ri (rt_P sc fm) 338 104 (.iaload) (105) := ri_of (by decide +kernel) rfl
theorem wi_338_105 : ri (rt_P sc fm) 338 105 (.iadd) (106) := ri_of (by decide +kernel) rfl
theorem wi_338_106 : ri (rt_P sc fm) 338 106 (.if_icmp .ge 82) (109) := ri_of (by decide +kernel) rfl
theorem wi_338_109 : ri (rt_P sc fm) 338 109 (.aload_n 0) (110) := ri_of (by decide +kernel) rfl
theorem wi_338_110 : ri (rt_P sc fm) 338 110 (.aload_n 0) (111) := ri_of (by decide +kernel) rfl
theorem wi_338_111 : ri (rt_P sc fm) 338 111 (.getfield 27) (114) := ri_of (by decide +kernel) rfl
theorem wi_338_114 : ri (rt_P sc fm) 338 114 (.getfield 316) (117) := ri_of (by decide +kernel) rfl
theorem wi_338_117 : ri (rt_P sc fm) 338 117 (.iload 4) (119) := ri_of (by decide +kernel) rfl
theorem wi_338_119 : ri (rt_P sc fm) 338 119 (.laload) (120) := ri_of (by decide +kernel) rfl
theorem wi_338_120 : ri (rt_P sc fm) 338 120 (.invokevirtual 310) (123) := ri_of (by decide +kernel) rfl
theorem wi_338_123 : ri (rt_P sc fm) 338 123 (.aload_n 0) (124) := ri_of (by decide +kernel) rfl
theorem wi_338_124 : ri (rt_P sc fm) 338 124 (.aload_n 0) (125) := ri_of (by decide +kernel) rfl
theorem wi_338_125 : ri (rt_P sc fm) 338 125 (.getfield 27) (128) := ri_of (by decide +kernel) rfl
theorem wi_338_128 : ri (rt_P sc fm) 338 128 (.getfield 319) (131) := ri_of (by decide +kernel) rfl
theorem wi_338_13 : ri (rt_P sc fm) 338 13 (.iload_n 1) (14) := ri_of (by decide +kernel) rfl
theorem wi_338_131 : ri (rt_P sc fm) 338 131 (.iload 4) (133) := ri_of (by decide +kernel) rfl
theorem wi_338_133 : ri (rt_P sc fm) 338 133 (.baload) (134) := ri_of (by decide +kernel) rfl
theorem wi_338_134 : ri (rt_P sc fm) 338 134 (.invokevirtual 39) (137) := ri_of (by decide +kernel) rfl
theorem wi_338_137 : ri (rt_P sc fm) 338 137 (.aload_n 0) (138) := ri_of (by decide +kernel) rfl
theorem wi_338_138 : ri (rt_P sc fm) 338 138 (.getfield 27) (141) := ri_of (by decide +kernel) rfl
theorem wi_338_14 : ri (rt_P sc fm) 338 14 (.iaload) (15) := ri_of (by decide +kernel) rfl
theorem wi_338_141 : ri (rt_P sc fm) 338 141 (.getfield 319) (144) := ri_of (by decide +kernel) rfl
theorem wi_338_144 : ri (rt_P sc fm) 338 144 (.iload 4) (146) := ri_of (by decide +kernel) rfl
theorem wi_338_146 : ri (rt_P sc fm) 338 146 (.baload) (147) := ri_of (by decide +kernel) rfl
theorem wi_338_147 : ri (rt_P sc fm) 338 147 (.iconst 1) (148) := ri_of (by decide +kernel) rfl
theorem wi_338_148 : ri (rt_P sc fm) 338 148 (.if_icmp .ne 20) (151) := ri_of (by decide +kernel) rfl
theorem wi_338_15 : ri (rt_P sc fm) 338 15 (.invokevirtual 39) (18) := ri_of (by decide +kernel) rfl
theorem wi_338_151 : ri (rt_P sc fm) 338 151 (.aload_n 0) (152) := ri_of (by decide +kernel) rfl
theorem wi_338_152 : ri (rt_P sc fm) 338 152 (.aload_n 0) (153) := ri_of (by decide +kernel) rfl
theorem wi_338_153 : ri (rt_P sc fm) 338 153 (.getfield 27) (156) := ri_of (by decide +kernel) rfl
theorem wi_338_156 : ri (rt_P sc fm) 338 156 (.getfield 322) (159) := ri_of (by decide +kernel) rfl
theorem wi_338_159 : ri (rt_P sc fm) 338 159 (.iload 4) (161) := ri_of (by decide +kernel) rfl
theorem wi_338_161 : ri (rt_P sc fm) 338 161 (.laload) (162) := ri_of (by decide +kernel) rfl
theorem wi_338_162 : ri (rt_P sc fm) 338 162 (.invokevirtual 325) (165) := ri_of (by decide +kernel) rfl
theorem wi_338_165 : ri (rt_P sc fm) 338 165 (.goto 17) (168) := ri_of (by decide +kernel) rfl
theorem wi_338_168 : ri (rt_P sc fm) 338 168 (.aload_n 0) (169) := ri_of (by decide +kernel) rfl
theorem wi_338_169 : ri (rt_P sc fm) 338 169 (.aload_n 0) (170) := ri_of (by decide +kernel) rfl
theorem wi_338_170 : ri (rt_P sc fm) 338 170 (.getfield 27) (173) := ri_of (by decide +kernel) rfl
theorem wi_338_173 : ri (rt_P sc fm) 338 173 (.getfield 322) (176) := ri_of (by decide +kernel) rfl
theorem wi_338_176 : ri (rt_P sc fm) 338 176 (.iload 4) (178) := ri_of (by decide +kernel) rfl
theorem wi_338_178 : ri (rt_P sc fm) 338 178 (.laload) (179) := ri_of (by decide +kernel) rfl
theorem wi_338_179 : ri (rt_P sc fm) 338 179 (.invokevirtual 310) (182) := ri_of (by decide +kernel) rfl
theorem wi_338_18 : ri (rt_P sc fm) 338 18 (.aload_n 0) (19) := ri_of (by decide +kernel) rfl
theorem wi_338_182 : ri (rt_P sc fm) 338 182 (.iinc 4 1) (185) := ri_of (by decide +kernel) rfl
theorem wi_338_185 : ri (rt_P sc fm) 338 185 (.goto (-94)) (188) := ri_of (by decide +kernel) rfl
theorem wi_338_188 : ri (rt_P sc fm) 338 188 (.aload_n 0) (189) := ri_of (by decide +kernel) rfl
theorem wi_338_189 : ri (rt_P sc fm) 338 189 (.getfield 27) (192) := ri_of (by decide +kernel) rfl
theorem wi_338_19 : ri (rt_P sc fm) 338 19 (.getfield 27) (22) := ri_of (by decide +kernel) rfl
theorem wi_338_192 : ri (rt_P sc fm) 338 192 (.getfield 221) (195) := ri_of (by decide +kernel) rfl
theorem wi_338_195 : ri (rt_P sc fm) 338 195 (.iload_n 2) (196) := ri_of (by decide +kernel) rfl
theorem wi_338_196 : ri (rt_P sc fm) 338 196 (.iaload) (197) := ri_of (by decide +kernel) rfl
theorem wi_338_197 : ri (rt_P sc fm) 338 197 (.istore_n 2) (198) := ri_of (by decide +kernel) rfl
theorem wi_338_198 : ri (rt_P sc fm) 338 198 (.iinc 3 1) (201) := ri_of (by decide +kernel) rfl
theorem wi_338_2 : ri (rt_P sc fm) 338 2 (.putfield 35) (5) := ri_of (by decide +kernel) rfl
theorem wi_338_201 : ri (rt_P sc fm) 338 201 (.goto (-171)) (204) := ri_of (by decide +kernel) rfl
theorem wi_338_204 : ri (rt_P sc fm) 338 204 (.aload_n 0) (205) := ri_of (by decide +kernel) rfl
theorem wi_338_205 : ri (rt_P sc fm) 338 205 (.getfield 35) (208) := ri_of (by decide +kernel) rfl
theorem wi_338_208 : ri (rt_P sc fm) 338 208 (.ireturn) (209) := ri_of (by decide +kernel) rfl
theorem wi_338_22 : ri (rt_P sc fm) 338 22 (.getfield 208) (25) := ri_of (by decide +kernel) rfl
theorem wi_338_25 : ri (rt_P sc fm) 338 25 (.iload_n 1) (26) := ri_of (by decide +kernel) rfl
theorem wi_338_26 : ri (rt_P sc fm) 338 26 (.iaload) (27) := ri_of (by decide +kernel) rfl
theorem wi_338_27 : ri (rt_P sc fm) 338 27 (.istore_n 2) (28) := ri_of (by decide +kernel) rfl
theorem wi_338_28 : ri (rt_P sc fm) 338 28 (.iconst 0) (29) := ri_of (by decide +kernel) rfl
theorem wi_338_29 : ri (rt_P sc fm) 338 29 (.istore_n 3) (30) := ri_of (by decide +kernel) rfl
theorem wi_338_30 : ri (rt_P sc fm) 338 30 (.iload_n 3) (31) := ri_of (by decide +kernel) rfl
theorem wi_338_31 : ri (rt_P sc fm) 338 31 (.aload_n 0) (32) := ri_of (by decide +kernel) rfl
theorem wi_338_32 : ri (rt_P sc fm) 338 32 (.getfield 27) (35) := ri_of (by decide +kernel) rfl
theorem wi_338_35 : ri (rt_P sc fm) 338 35 (.getfield 175) (38) := ri_of (by decide +kernel) rfl
theorem wi_338_38 : ri (rt_P sc fm) 338 38 (.iload_n 1) (39) := ri_of (by decide +kernel) rfl
theorem wi_338_39 : ri (rt_P sc fm) 338 39 (.iaload) (40) := ri_of (by decide +kernel) rfl
theorem wi_338_40 : ri (rt_P sc fm) 338 40 (.if_icmp .ge 164) (43) := ri_of (by decide +kernel) rfl
theorem wi_338_43 : ri (rt_P sc fm) 338 43 (.aload_n 0) (44) := ri_of (by decide +kernel) rfl
theorem wi_338_44 : ri (rt_P sc fm) 338 44 (.aload_n 0) (45) := ri_of (by decide +kernel) rfl
theorem wi_338_45 : ri (rt_P sc fm) 338 45 (.getfield 27) (48) := ri_of (by decide +kernel) rfl
theorem wi_338_48 : ri (rt_P sc fm) 338 48 (.getfield 238) (51) := ri_of (by decide +kernel) rfl
theorem wi_338_5 : ri (rt_P sc fm) 338 5 (.aload_n 0) (6) := ri_of (by decide +kernel) rfl
theorem wi_338_51 : ri (rt_P sc fm) 338 51 (.iload_n 2) (52) := ri_of (by decide +kernel) rfl
theorem wi_338_52 : ri (rt_P sc fm) 338 52 (.laload) (53) := ri_of (by decide +kernel) rfl
theorem wi_338_53 : ri (rt_P sc fm) 338 53 (.invokevirtual 310) (56) := ri_of (by decide +kernel) rfl
theorem wi_338_56 : ri (rt_P sc fm) 338 56 (.aload_n 0) (57) := ri_of (by decide +kernel) rfl
theorem wi_338_57 : ri (rt_P sc fm) 338 57 (.aload_n 0) (58) := ri_of (by decide +kernel) rfl
theorem wi_338_58 : ri (rt_P sc fm) 338 58 (.getfield 27) (61) := ri_of (by decide +kernel) rfl
theorem wi_338_6 : ri (rt_P sc fm) 338 6 (.aload_n 0) (7) := ri_of (by decide +kernel) rfl
theorem wi_338_61 : ri (rt_P sc fm) 338 61 (.iload_n 2) (62) := ri_of (by decide +kernel) rfl
theorem wi_338_62 : ri (rt_P sc fm) 338 62 (.invokevirtual 224) (65) := ri_of (by decide +kernel) rfl
theorem wi_338_65 : ri (rt_P sc fm) 338 65 (.ifCond .eq 9) (68) := ri_of (by decide +kernel) rfl
theorem wi_338_68 : ri (rt_P sc fm) 338 68 (.sipush 255) (71) := ri_of (by decide +kernel) rfl
theorem wi_338_7 : ri (rt_P sc fm) 338 7 (.getfield 27) (10) := ri_of (by decide +kernel) rfl
theorem wi_338_71 : ri (rt_P sc fm) 338 71 (.goto 12) (74) := ri_of (by decide +kernel) rfl
theorem wi_338_74 : ri (rt_P sc fm) 338 74 (.aload_n 0) (75) := ri_of (by decide +kernel) rfl
theorem wi_338_75 : ri (rt_P sc fm) 338 75 (.getfield 27) (78) := ri_of (by decide +kernel) rfl
theorem wi_338_78 : ri (rt_P sc fm) 338 78 (.getfield 313) (81) := ri_of (by decide +kernel) rfl
theorem wi_338_81 : ri (rt_P sc fm) 338 81 (.iload_n 2) (82) := ri_of (by decide +kernel) rfl
theorem wi_338_82 : ri (rt_P sc fm) 338 82 (.iaload) (83) := ri_of (by decide +kernel) rfl
theorem wi_338_83 : ri (rt_P sc fm) 338 83 (.invokevirtual 39) (86) := ri_of (by decide +kernel) rfl
theorem wi_338_86 : ri (rt_P sc fm) 338 86 (.iload_n 2) (87) := ri_of (by decide +kernel) rfl
theorem wi_338_87 : ri (rt_P sc fm) 338 87 (.iconst 4) (88) := ri_of (by decide +kernel) rfl
theorem wi_338_88 : ri (rt_P sc fm) 338 88 (.imul) (89) := ri_of (by decide +kernel) rfl
theorem wi_338_89 : ri (rt_P sc fm) 338 89 (.istore 4) (91) := ri_of (by decide +kernel) rfl
theorem wi_338_91 : ri (rt_P sc fm) 338 91 (.iload 4) (93) := ri_of (by decide +kernel) rfl
theorem wi_338_93 : ri (rt_P sc fm) 338 93 (.iload_n 2) (94) := ri_of (by decide +kernel) rfl
theorem wi_338_94 : ri (rt_P sc fm) 338 94 (.iconst 4) (95) := ri_of (by decide +kernel) rfl
theorem wi_338_95 : ri (rt_P sc fm) 338 95 (.imul) (96) := ri_of (by decide +kernel) rfl
theorem wi_338_96 : ri (rt_P sc fm) 338 96 (.aload_n 0) (97) := ri_of (by decide +kernel) rfl
theorem wi_338_97 : ri (rt_P sc fm) 338 97 (.getfield 27) (100) := ri_of (by decide +kernel) rfl
theorem wm_339 : rx_ml (rt_P sc fm) 339 = 6 := (by decide +kernel : rt_ml 339 = 6)
theorem wm_340 : rx_ml (rt_P sc fm) 340 = 4 := (by decide +kernel : rt_ml 340 = 4)
theorem wp_338_35 : rx_pt (rt_P sc fm) 338 35 = some (12, 1, .int) := (by decide +kernel : rt_pt 338 35 = some (12, 1, .int))
theorem wr_338 : rx_rt (rt_P sc fm) 338 = (some FieldType.int) := (by decide +kernel : rt_rt 338 = (some FieldType.int))
/-- MarkHouse$Teller.writeFile(I)I -/
def d_338 (n : Nat) (a1 : Int32) (c : cS) : Option (Int32 × cS) :=
  lt (pI c 172 1 0) (fun c1 =>
  if ib a1 2242 then
  Option.bind (d_317 n (c1.1 144 (ix a1)) c1) (fun r4 =>
  if ib a1 2242 then
  lt ((r4.1 142 (ix a1)) : Int32) (fun v7 =>
  Option.bind (whl (R := (cS)) (fun s10 : Int32 × Int32 × cS =>
    if ib a1 2242 then
    if (s10.2.2.1 144 (ix a1)) ≤ s10.2.1 then
      some (.inr s10.2.2)
    else
      if ib s10.1 4096 then
      Option.bind (d_339 n (s10.2.2.2 134 (ix s10.1)) s10.2.2) (fun r13 =>
      Option.bind (d_227 n s10.1 r13) (fun v14 =>
      jn (fun p15 : Int32 =>
        Option.bind (d_317 n p15 r13) (fun r16 =>
        lt ((s10.1 * 4) : Int32) (fun v18 =>
        Option.bind (whl (R := (cS)) (fun s20 : Int32 × cS =>
          if ib s10.1 4096 then
          if ((s10.1 * 4) + (s20.2.1 136 (ix s10.1))) ≤ s20.1 then
            some (.inr s20.2)
          else
            if ib s20.1 16384 then
            Option.bind (d_339 n (s20.2.2 139 (ix s20.1)) s20.2) (fun r23 =>
            if ib s20.1 16384 then
            Option.bind (d_317 n (r23.1 140 (ix s20.1)) r23) (fun r25 =>
            if ib s20.1 16384 then
            jn (fun p27 : cS =>
              lt (s20.1 + 1 : Int32) (fun v29 =>
              some (.inl (v29, p27))))
            (fun j182 =>
            if (r25.1 140 (ix s20.1)) = 1 then
              if ib s20.1 16384 then
              Option.bind (d_340 n (r25.2 141 (ix s20.1)) r25) (fun r34 =>
              j182 r34)
              else none
            else
              if ib s20.1 16384 then
              Option.bind (d_339 n (r25.2 141 (ix s20.1)) r25) (fun r32 =>
              j182 r32)
              else none)
            else none)
            else none)
            else none
          else none) n (v18, r16))
        (fun x35 : cS =>
          if ib s10.1 4096 then
          lt ((x35.1 138 (ix s10.1)) : Int32) (fun v38 =>
          lt (s10.2.1 + 1 : Int32) (fun v41 =>
          some (.inl (v38, v41, x35))))
          else none))))
      (fun j83 =>
      if v14 = 0 then
        if ib s10.1 4096 then
        j83 (r13.1 136 (ix s10.1))
        else none
      else
        j83 255)))
      else none
    else none) n (v7, 0, r4))
  (fun x44 : cS =>
    some ((x44.1 172 1), x44)))
  else none)
  else none)
theorem sp_338 {F Lo n : Nat} {a1 : Int32} {c y : cS} {w : cW} {K : Int32 × cS → Prop} {Q : ((Option Value) ⊕ String) → List va_E → Prop} (hw : rOK fm w) (hF : 3 ≤ F) (hLo : 70 ≤ Lo)  (h : wp (d_338 n a1 c) K) (hQ : ∀ r, K r → Q (.inl (some (.int r.1))) (hq true r.2 y w)) : rs (rt_P sc fm) 338 F Lo 0 [(0, .ref 172), (1, .int a1)] [] (hq true c y w) Q := by
  unfold d_338 at h
  obtain ⟨lv, elv⟩ : ∃ lv : rx_L, lv = [(0, .ref 172), (1, .int a1)] := ⟨_, rfl⟩
  rw [← elv]
  have l0 : rx_ld lv 0 = some (.ref 172) := by rw [elv]; rfl
  have l1 : rx_ld lv 1 = some (.int a1) := by rw [elv]; rfl
  refine rs_aldn wi_338_0 l0 ?_
  refine rs_pure wi_338_1 rfl ?_
  refine rs_topi (v := 0) (by decide) ?_
  obtain ⟨c1, e2, h⟩ := wp_lt h
  refine dq_pi wi_338_2 wp_338_35 tf_172_1 rfl rfl e2 ?_
  refine rs_aldn wi_338_5 l0 ?_
  refine rs_aldn wi_338_6 l0 ?_
  refine dq_gr wi_338_7 wf_338_27 tf_172_5 ?_
  refine dq_gr wi_338_10 wf_338_175 tf_133_10 ?_
  refine rs_ildn wi_338_13 l1 ?_
  obtain ⟨g3, h⟩ := wp_gd h
  refine dq_iald wi_338_14 t_144 g3 ?_
  refine rs_V wi_338_15 wc_338_39 rfl (dq_isa tf_172_0 wa_12_317) (Nat.le_trans (by decide) hF) (ml_le wm_317 (Nat.le_trans (by decide) hLo)) rfl (sp_317 hw (Nat.le_trans (by decide : 0 ≤ 3 - 1) (Nat.sub_le_sub_right hF 1)) (ml_sub wm_317 (Nat.le_trans (by decide : 0 ≤ 70 - 21) (Nat.sub_le_sub_right hLo 21))) (wp_bind h) (fun r4 h => rs_back0 ?_))
  refine rs_aldn wi_338_18 l0 ?_
  refine dq_gr wi_338_19 wf_338_27 tf_172_5 ?_
  refine dq_gr wi_338_22 wf_338_208 tf_133_8 ?_
  refine rs_ildn wi_338_25 l1 ?_
  obtain ⟨g5, h⟩ := wp_gd h
  refine dq_iald wi_338_26 t_142 g5 ?_
  obtain ⟨v7, e8, h⟩ := wp_lt h
  refine rs_topi e8 ?_
  refine dl_istn wi_338_27 rfl (fun lv l2 t6 => ?_)
  have l0 := t6 _ _ (by decide) (Or.inl rfl) l0
  have l1 := t6 _ _ (by decide) (Or.inl rfl) l1
  refine rs_pure wi_338_28 rfl ?_
  refine rs_topi (v := 0) (by decide) ?_
  refine dl_istn wi_338_29 rfl (fun lv l3 t9 => ?_)
  have l0 := t9 _ _ (by decide) (Or.inl rfl) l0
  have l1 := t9 _ _ (by decide) (Or.inl rfl) l1
  have l2 := t9 _ _ (by decide) (Or.inl rfl) l2
  refine whl_ex (A := fun s10 : Int32 × Int32 × cS => ∀ lv, rx_ld lv 0 = some (.ref 172) → rx_ld lv 1 = some (.int a1) → rx_ld lv 2 = some (.int s10.1) → rx_ld lv 3 = some (.int s10.2.1) → rs (rt_P sc fm) 338 F Lo 30 lv [] (hq true s10.2.2 y w) Q) (B := (fun x44 : cS => ∀ lv, rx_ld lv 0 = some (.ref 172) → rs (rt_P sc fm) 338 F Lo 204 lv [] (hq true x44 y w) Q)) ?_ ?_ _ _ (wp_bind h) _ l0 l1 l2 l3
  · intro s10 h lv l0 l1 l2 l3
    refine rs_ildn wi_338_30 l3 ?_
    refine rs_aldn wi_338_31 l0 ?_
    refine dq_gr wi_338_32 wf_338_27 tf_172_5 ?_
    refine dq_gr wi_338_35 wf_338_175 tf_133_10 ?_
    refine rs_ildn wi_338_38 l1 ?_
    obtain ⟨g11, h⟩ := wp_gd h
    refine dq_iald wi_338_39 t_144 g11 ?_
    refine rs_icge (tg := 204) wi_338_40 ⟨by decide, by decide⟩ (fun q => ?_) (fun q => ?_)
    ·
      have h := wp_pos h q
      exact h _ l0
    ·
      have h := wp_neg h q
      refine rs_aldn wi_338_43 l0 ?_
      refine rs_aldn wi_338_44 l0 ?_
      refine dq_gr wi_338_45 wf_338_27 tf_172_5 ?_
      refine dq_gr wi_338_48 wf_338_238 tf_133_0 ?_
      refine rs_ildn wi_338_51 l2 ?_
      obtain ⟨g12, h⟩ := wp_gd h
      refine dq_lald wi_338_52 t_134 g12 ?_
      refine rs_V wi_338_53 wc_338_310 rfl (dq_isa tf_172_0 wa_12_339) (Nat.le_trans (by decide) hF) (ml_le wm_339 (Nat.le_trans (by decide) hLo)) rfl (sp_339 hw (Nat.le_trans (by decide : 2 ≤ 3 - 1) (Nat.sub_le_sub_right hF 1)) (ml_sub wm_339 (Nat.le_trans (by decide : 45 ≤ 70 - 25) (Nat.sub_le_sub_right hLo 25))) (wp_bind h) (fun r13 h => rs_back0 ?_))
      refine rs_aldn wi_338_56 l0 ?_
      refine rs_aldn wi_338_57 l0 ?_
      refine dq_gr wi_338_58 wf_338_27 tf_172_5 ?_
      refine rs_ildn wi_338_61 l2 ?_
      refine rs_V wi_338_62 wc_338_224 rfl (dq_isa tf_133_0 wa_7_227) (Nat.le_trans (by decide) hF) (ml_le wm_227 (Nat.le_trans (by decide) hLo)) rfl (sp_227 hw (Nat.le_trans (by decide : 0 ≤ 3 - 1) (Nat.sub_le_sub_right hF 1)) (ml_sub wm_227 (Nat.le_trans (by decide : 0 ≤ 70 - 21) (Nat.sub_le_sub_right hLo 21))) (wp_bind h) (fun v14 h => rs_back1 ?_))
      refine wp_jn (B := fun p15 : Int32 => ∀ lv, rx_ld lv 0 = some (.ref 172) → rx_ld lv 1 = some (.int a1) → rx_ld lv 2 = some (.int s10.1) → rx_ld lv 3 = some (.int s10.2.1) → rs (rt_P sc fm) 338 F Lo 83 lv [.int p15, .ref 172] (hq true r13 y w) Q) h (fun p15 h lv l0 l1 l2 l3 => ?_) (fun j83 hj83 h => ?_)
      ·
        refine rs_V wi_338_83 wc_338_39 rfl (dq_isa tf_172_0 wa_12_317) (Nat.le_trans (by decide) hF) (ml_le wm_317 (Nat.le_trans (by decide) hLo)) rfl (sp_317 hw (Nat.le_trans (by decide : 0 ≤ 3 - 1) (Nat.sub_le_sub_right hF 1)) (ml_sub wm_317 (Nat.le_trans (by decide : 0 ≤ 70 - 21) (Nat.sub_le_sub_right hLo 21))) (wp_bind h) (fun r16 h => rs_back0 ?_))
        refine rs_ildn wi_338_86 l2 ?_
        refine rs_pure wi_338_87 rfl ?_
        refine rs_topi (v := 4) (by decide) ?_
        refine rs_pure wi_338_88 rfl ?_
        obtain ⟨v18, e19, h⟩ := wp_lt h
        refine rs_topi e19 ?_
        refine dl_ist wi_338_89 rfl (fun lv l4 t17 => ?_)
        have l0 := t17 _ _ (by decide) (Or.inl rfl) l0
        have l1 := t17 _ _ (by decide) (Or.inl rfl) l1
        have l2 := t17 _ _ (by decide) (Or.inl rfl) l2
        have l3 := t17 _ _ (by decide) (Or.inl rfl) l3
        refine whl_ex (A := fun s20 : Int32 × cS => ∀ lv, rx_ld lv 0 = some (.ref 172) → rx_ld lv 1 = some (.int a1) → rx_ld lv 2 = some (.int s10.1) → rx_ld lv 3 = some (.int s10.2.1) → rx_ld lv 4 = some (.int s20.1) → rs (rt_P sc fm) 338 F Lo 91 lv [] (hq true s20.2 y w) Q) (B := (fun x35 : cS => ∀ lv, rx_ld lv 0 = some (.ref 172) → rx_ld lv 1 = some (.int a1) → rx_ld lv 2 = some (.int s10.1) → rx_ld lv 3 = some (.int s10.2.1) → rs (rt_P sc fm) 338 F Lo 188 lv [] (hq true x35 y w) Q)) ?_ ?_ _ _ (wp_bind h) _ l0 l1 l2 l3 l4
        · intro s20 h lv l0 l1 l2 l3 l4
          refine rs_ild wi_338_91 l4 ?_
          refine rs_ildn wi_338_93 l2 ?_
          refine rs_pure wi_338_94 rfl ?_
          refine rs_topi (v := 4) (by decide) ?_
          refine rs_pure wi_338_95 rfl ?_
          refine rs_aldn wi_338_96 l0 ?_
          refine dq_gr wi_338_97 wf_338_27 tf_172_5 ?_
          refine dq_gr wi_338_100 wf_338_313 tf_133_2 ?_
          refine rs_ildn wi_338_103 l2 ?_
          obtain ⟨g21, h⟩ := wp_gd h
          refine dq_iald wi_338_104 t_136 g21 ?_
          refine rs_pure wi_338_105 rfl ?_
          refine rs_icge (tg := 188) wi_338_106 ⟨by decide, by decide⟩ (fun q => ?_) (fun q => ?_)
          ·
            have h := wp_pos h q
            exact h _ l0 l1 l2 l3
          ·
            have h := wp_neg h q
            refine rs_aldn wi_338_109 l0 ?_
            refine rs_aldn wi_338_110 l0 ?_
            refine dq_gr wi_338_111 wf_338_27 tf_172_5 ?_
            refine dq_gr wi_338_114 wf_338_316 tf_133_5 ?_
            refine rs_ild wi_338_117 l4 ?_
            obtain ⟨g22, h⟩ := wp_gd h
            refine dq_lald wi_338_119 t_139 g22 ?_
            refine rs_V wi_338_120 wc_338_310 rfl (dq_isa tf_172_0 wa_12_339) (Nat.le_trans (by decide) hF) (ml_le wm_339 (Nat.le_trans (by decide) hLo)) rfl (sp_339 hw (Nat.le_trans (by decide : 2 ≤ 3 - 1) (Nat.sub_le_sub_right hF 1)) (ml_sub wm_339 (Nat.le_trans (by decide : 45 ≤ 70 - 25) (Nat.sub_le_sub_right hLo 25))) (wp_bind h) (fun r23 h => rs_back0 ?_))
            refine rs_aldn wi_338_123 l0 ?_
            refine rs_aldn wi_338_124 l0 ?_
            refine dq_gr wi_338_125 wf_338_27 tf_172_5 ?_
            refine dq_gr wi_338_128 wf_338_319 tf_133_6 ?_
            refine rs_ild wi_338_131 l4 ?_
            obtain ⟨g24, h⟩ := wp_gd h
            refine dq_bald wi_338_133 t_140 g24 ?_
            refine rs_V wi_338_134 wc_338_39 rfl (dq_isa tf_172_0 wa_12_317) (Nat.le_trans (by decide) hF) (ml_le wm_317 (Nat.le_trans (by decide) hLo)) rfl (sp_317 hw (Nat.le_trans (by decide : 0 ≤ 3 - 1) (Nat.sub_le_sub_right hF 1)) (ml_sub wm_317 (Nat.le_trans (by decide : 0 ≤ 70 - 21) (Nat.sub_le_sub_right hLo 21))) (wp_bind h) (fun r25 h => rs_back0 ?_))
            refine rs_aldn wi_338_137 l0 ?_
            refine dq_gr wi_338_138 wf_338_27 tf_172_5 ?_
            refine dq_gr wi_338_141 wf_338_319 tf_133_6 ?_
            refine rs_ild wi_338_144 l4 ?_
            obtain ⟨g26, h⟩ := wp_gd h
            refine dq_bald wi_338_146 t_140 g26 ?_
            refine rs_pure wi_338_147 rfl ?_
            refine rs_topi (v := 1) (by decide) ?_
            refine wp_jn (B := fun p27 : cS => ∀ lv, rx_ld lv 0 = some (.ref 172) → rx_ld lv 1 = some (.int a1) → rx_ld lv 2 = some (.int s10.1) → rx_ld lv 3 = some (.int s10.2.1) → rx_ld lv 4 = some (.int s20.1) → rs (rt_P sc fm) 338 F Lo 182 lv [] (hq true p27 y w) Q) h (fun p27 h lv l0 l1 l2 l3 l4 => ?_) (fun j182 hj182 h => ?_)
            ·
              obtain ⟨v29, e30, h⟩ := wp_lt h
              refine dl_inc wi_338_182 l4 rfl e30 (fun lv l4 t28 => ?_)
              have l0 := t28 _ _ (by decide) (Or.inl rfl) l0
              have l1 := t28 _ _ (by decide) (Or.inl rfl) l1
              have l2 := t28 _ _ (by decide) (Or.inl rfl) l2
              have l3 := t28 _ _ (by decide) (Or.inl rfl) l3
              refine rs_goto (tg := 91) wi_338_185 ⟨by decide, by decide⟩ ?_
              exact h _ l0 l1 l2 l3 l4
            refine rs_icne (tg := 168) wi_338_148 ⟨by decide, by decide⟩ (fun q => ?_) (fun q => ?_)
            ·
              have h := wp_neg h q
              refine rs_aldn wi_338_168 l0 ?_
              refine rs_aldn wi_338_169 l0 ?_
              refine dq_gr wi_338_170 wf_338_27 tf_172_5 ?_
              refine dq_gr wi_338_173 wf_338_322 tf_133_7 ?_
              refine rs_ild wi_338_176 l4 ?_
              obtain ⟨g31, h⟩ := wp_gd h
              refine dq_lald wi_338_178 t_141 g31 ?_
              refine rs_V wi_338_179 wc_338_310 rfl (dq_isa tf_172_0 wa_12_339) (Nat.le_trans (by decide) hF) (ml_le wm_339 (Nat.le_trans (by decide) hLo)) rfl (sp_339 hw (Nat.le_trans (by decide : 2 ≤ 3 - 1) (Nat.sub_le_sub_right hF 1)) (ml_sub wm_339 (Nat.le_trans (by decide : 45 ≤ 70 - 25) (Nat.sub_le_sub_right hLo 25))) (wp_bind h) (fun r32 h => rs_back0 ?_))
              exact hj182 _ h _ l0 l1 l2 l3 l4
            ·
              have h := wp_pos h q
              refine rs_aldn wi_338_151 l0 ?_
              refine rs_aldn wi_338_152 l0 ?_
              refine dq_gr wi_338_153 wf_338_27 tf_172_5 ?_
              refine dq_gr wi_338_156 wf_338_322 tf_133_7 ?_
              refine rs_ild wi_338_159 l4 ?_
              obtain ⟨g33, h⟩ := wp_gd h
              refine dq_lald wi_338_161 t_141 g33 ?_
              refine rs_V wi_338_162 wc_338_325 rfl (dq_isa tf_172_0 wa_12_340) (Nat.le_trans (by decide) hF) (ml_le wm_340 (Nat.le_trans (by decide) hLo)) rfl (sp_340 hw (Nat.le_trans (by decide : 1 ≤ 3 - 1) (Nat.sub_le_sub_right hF 1)) (ml_sub wm_340 (Nat.le_trans (by decide : 21 ≤ 70 - 23) (Nat.sub_le_sub_right hLo 23))) (wp_bind h) (fun r34 h => rs_back0 ?_))
              refine rs_goto (tg := 182) wi_338_165 ⟨by decide, by decide⟩ ?_
              exact hj182 _ h _ l0 l1 l2 l3 l4
        ·
          intro x35 h lv l0 l1 l2 l3
          refine rs_aldn wi_338_188 l0 ?_
          refine dq_gr wi_338_189 wf_338_27 tf_172_5 ?_
          refine dq_gr wi_338_192 wf_338_221 tf_133_4 ?_
          refine rs_ildn wi_338_195 l2 ?_
          obtain ⟨g36, h⟩ := wp_gd h
          refine dq_iald wi_338_196 t_138 g36 ?_
          obtain ⟨v38, e39, h⟩ := wp_lt h
          refine rs_topi e39 ?_
          refine dl_istn wi_338_197 rfl (fun lv l2 t37 => ?_)
          have l0 := t37 _ _ (by decide) (Or.inl rfl) l0
          have l1 := t37 _ _ (by decide) (Or.inl rfl) l1
          have l3 := t37 _ _ (by decide) (Or.inl rfl) l3
          obtain ⟨v41, e42, h⟩ := wp_lt h
          refine dl_inc wi_338_198 l3 rfl e42 (fun lv l3 t40 => ?_)
          have l0 := t40 _ _ (by decide) (Or.inl rfl) l0
          have l1 := t40 _ _ (by decide) (Or.inl rfl) l1
          have l2 := t40 _ _ (by decide) (Or.inl rfl) l2
          refine rs_goto (tg := 30) wi_338_201 ⟨by decide, by decide⟩ ?_
          exact h _ l0 l1 l2 l3
      refine rs_ifeq (tg := 74) wi_338_65 ⟨by decide, by decide⟩ (fun q => ?_) (fun q => ?_)
      ·
        have h := wp_pos h q
        refine rs_aldn wi_338_74 l0 ?_
        refine dq_gr wi_338_75 wf_338_27 tf_172_5 ?_
        refine dq_gr wi_338_78 wf_338_313 tf_133_2 ?_
        refine rs_ildn wi_338_81 l2 ?_
        obtain ⟨g43, h⟩ := wp_gd h
        refine dq_iald wi_338_82 t_136 g43 ?_
        exact hj83 _ h _ l0 l1 l2 l3
      ·
        have h := wp_neg h q
        refine rs_pure wi_338_68 rfl ?_
        refine rs_topi (v := 255) (by decide) ?_
        refine rs_goto (tg := 83) wi_338_71 ⟨by decide, by decide⟩ ?_
        exact hj83 _ h _ l0 l1 l2 l3
  ·
    intro x44 h lv l0
    refine rs_aldn wi_338_204 l0 ?_
    refine dq_gi wi_338_205 wf_338_35 tf_172_1 ?_
    exact rs_iret wi_338_208 wr_338 rfl (hQ ((x44.1 172 1), x44) h)
theorem wa_12_338 : rz_cn 12 (rx_yn (rt_P sc fm) 338).cls = true := (by decide +kernel : rz_cn 12 (rt_yn 338).cls = true)
theorem wc_66_146 : rx_ct (rt_P sc fm) 66 146 = some (0, 21, 1) := (by decide +kernel : rt_ct 66 146 = some (0, 21, 1))
theorem wc_66_227 : rx_ct (rt_P sc fm) 66 227 = some (0, 338, 1) := (by decide +kernel : rt_ct 66 227 = some (0, 338, 1))
theorem wf_66_28 : rx_ft (rt_P sc fm) 66 28 = some (14, 2) := (by decide +kernel : rt_ft 66 28 = some (14, 2))
theorem wf_66_91 : rx_ft (rt_P sc fm) 66 91 = some (14, 9) := (by decide +kernel : rt_ft 66 91 = some (14, 9))
theorem wi_66_0 : ri (rt_P sc fm) 66 0 (.aload_n 0) (1) := ri_of (by decide +kernel) rfl
theorem wi_66_1 : ri (rt_P sc fm) 66 1 (.getfield 28) (4) := ri_of (by decide +kernel) rfl
theorem wi_66_11 : ri (rt_P sc fm) 66 11 (.iconst (-1)) (12) := ri_of (by decide +kernel) rfl
theorem wi_66_12 : ri (rt_P sc fm) 66 12 (.goto 11) (15) := ri_of (by decide +kernel) rfl
theorem wi_66_15 : ri (rt_P sc fm) 66 15 (.aload_n 0) (16) := ri_of (by decide +kernel) rfl
theorem wi_66_16 : ri (rt_P sc fm) 66 16 (.getfield 91) (19) := ri_of (by decide +kernel) rfl
theorem wi_66_19 : ri (rt_P sc fm) 66 19 (.iload_n 1) (20) := ri_of (by decide +kernel) rfl
theorem wi_66_20 : ri (rt_P sc fm) 66 20 (.invokevirtual 227) (23) := ri_of (by decide +kernel) rfl
theorem wi_66_23 : ri (rt_P sc fm) 66 23 (.ireturn) (24) := ri_of (by decide +kernel) rfl
theorem wi_66_4 : ri (rt_P sc fm) 66 4 (.iload_n 1) (5) := ri_of (by decide +kernel) rfl
theorem wi_66_5 : ri (rt_P sc fm) 66 5 (.invokevirtual 146) (8) := ri_of (by decide +kernel) rfl
theorem wi_66_8 : ri (rt_P sc fm) 66 8 (.ifCond .ge 7) (11) := ri_of (by decide +kernel) rfl
theorem wm_338 : rx_ml (rt_P sc fm) 338 = 5 := (by decide +kernel : rt_ml 338 = 5)
theorem wr_66 : rx_rt (rt_P sc fm) 66 = (some FieldType.int) := (by decide +kernel : rt_rt 66 = (some FieldType.int))
/-- MarkHouse.file(I)I -/
def d_66 (n : Nat) (a1 : Int32) (c : cS) : Option (Int32 × cS) :=
  Option.bind (d_21 n a1 c) (fun v1 =>
  jn (fun p2 : Int32 × cS =>
    some (p2.1, p2.2))
  (fun j23 =>
  if 0 ≤ v1 then
    Option.bind (d_338 n a1 c) (fun r3 =>
    j23 (r3.1, r3.2))
  else
    j23 ((-1), c)))
theorem sp_66 {F Lo n : Nat} {a1 : Int32} {c y : cS} {w : cW} {K : Int32 × cS → Prop} {Q : ((Option Value) ⊕ String) → List va_E → Prop} (hw : rOK fm w) (hF : 4 ≤ F) (hLo : 94 ≤ Lo)  (h : wp (d_66 n a1 c) K) (hQ : ∀ r, K r → Q (.inl (some (.int r.1))) (hq true r.2 y w)) : rs (rt_P sc fm) 66 F Lo 0 [(0, .ref 0), (1, .int a1)] [] (hq true c y w) Q := by
  unfold d_66 at h
  obtain ⟨lv, elv⟩ : ∃ lv : rx_L, lv = [(0, .ref 0), (1, .int a1)] := ⟨_, rfl⟩
  rw [← elv]
  have l0 : rx_ld lv 0 = some (.ref 0) := by rw [elv]; rfl
  have l1 : rx_ld lv 1 = some (.int a1) := by rw [elv]; rfl
  refine rs_aldn wi_66_0 l0 ?_
  refine dq_gr wi_66_1 wf_66_28 tf_0_2 ?_
  refine rs_ildn wi_66_4 l1 ?_
  refine rs_V wi_66_5 wc_66_146 rfl (dq_isa tf_114_0 wa_2_21) (Nat.le_trans (by decide) hF) (ml_le wm_21 (Nat.le_trans (by decide) hLo)) rfl (sp_21 hw (Nat.le_trans (by decide : 1 ≤ 4 - 1) (Nat.sub_le_sub_right hF 1)) (ml_sub wm_21 (Nat.le_trans (by decide : 21 ≤ 94 - 23) (Nat.sub_le_sub_right hLo 23))) (wp_bind h) (fun v1 h => rs_back1 ?_))
  refine wp_jn (B := fun p2 : Int32 × cS => ∀ lv, rs (rt_P sc fm) 66 F Lo 23 lv [.int p2.1] (hq true p2.2 y w) Q) h (fun p2 h lv => ?_) (fun j23 hj23 h => ?_)
  ·
    exact rs_iret wi_66_23 wr_66 rfl (hQ (p2.1, p2.2) h)
  refine rs_ifge (tg := 15) wi_66_8 ⟨by decide, by decide⟩ (fun q => ?_) (fun q => ?_)
  ·
    have h := wp_pos h q
    refine rs_aldn wi_66_15 l0 ?_
    refine dq_gr wi_66_16 wf_66_91 tf_0_9 ?_
    refine rs_ildn wi_66_19 l1 ?_
    refine rs_V wi_66_20 wc_66_227 rfl (dq_isa tf_172_0 wa_12_338) (Nat.le_trans (by decide) hF) (ml_le wm_338 (Nat.le_trans (by decide) hLo)) rfl (sp_338 hw (Nat.le_trans (by decide : 3 ≤ 4 - 1) (Nat.sub_le_sub_right hF 1)) (ml_sub wm_338 (Nat.le_trans (by decide : 70 ≤ 94 - 24) (Nat.sub_le_sub_right hLo 24))) (wp_bind h) (fun r3 h => rs_back1 ?_))
    exact hj23 _ h _
  ·
    have h := wp_neg h q
    refine rs_pure wi_66_11 rfl ?_
    refine rs_topi (v := (-1)) (by decide) ?_
    refine rs_goto (tg := 23) wi_66_12 ⟨by decide, by decide⟩ ?_
    exact hj23 _ h _
theorem wa_9_38 : rz_cn 9 (rx_yn (rt_P sc fm) 38).cls = true := (by decide +kernel : rz_cn 9 (rt_yn 38).cls = true)
theorem wc_70_146 : rx_ct (rt_P sc fm) 70 146 = some (0, 21, 1) := (by decide +kernel : rt_ct 70 146 = some (0, 21, 1))
theorem wc_70_266 : rx_ct (rt_P sc fm) 70 266 = some (0, 38, 1) := (by decide +kernel : rt_ct 70 266 = some (0, 38, 1))
theorem wf_70_19 : rx_ft (rt_P sc fm) 70 19 = some (14, 1) := (by decide +kernel : rt_ft 70 19 = some (14, 1))
theorem wf_70_28 : rx_ft (rt_P sc fm) 70 28 = some (14, 2) := (by decide +kernel : rt_ft 70 28 = some (14, 2))
theorem wi_70_0 : ri (rt_P sc fm) 70 0 (.aload_n 0) (1) := ri_of (by decide +kernel) rfl
theorem wi_70_1 : ri (rt_P sc fm) 70 1 (.getfield 28) (4) := ri_of (by decide +kernel) rfl
theorem wi_70_11 : ri (rt_P sc fm) 70 11 (.aload_n 0) (12) := ri_of (by decide +kernel) rfl
theorem wi_70_12 : ri (rt_P sc fm) 70 12 (.getfield 19) (15) := ri_of (by decide +kernel) rfl
theorem wi_70_15 : ri (rt_P sc fm) 70 15 (.iload_n 2) (16) := ri_of (by decide +kernel) rfl
theorem wi_70_16 : ri (rt_P sc fm) 70 16 (.invokevirtual 266) (19) := ri_of (by decide +kernel) rfl
theorem wi_70_19 : ri (rt_P sc fm) 70 19 (.ifCond .eq 7) (22) := ri_of (by decide +kernel) rfl
theorem wi_70_22 : ri (rt_P sc fm) 70 22 (.iconst 1) (23) := ri_of (by decide +kernel) rfl
theorem wi_70_23 : ri (rt_P sc fm) 70 23 (.goto 4) (26) := ri_of (by decide +kernel) rfl
theorem wi_70_26 : ri (rt_P sc fm) 70 26 (.iconst 0) (27) := ri_of (by decide +kernel) rfl
theorem wi_70_27 : ri (rt_P sc fm) 70 27 (.ireturn) (28) := ri_of (by decide +kernel) rfl
theorem wi_70_4 : ri (rt_P sc fm) 70 4 (.iload_n 1) (5) := ri_of (by decide +kernel) rfl
theorem wi_70_5 : ri (rt_P sc fm) 70 5 (.invokevirtual 146) (8) := ri_of (by decide +kernel) rfl
theorem wi_70_8 : ri (rt_P sc fm) 70 8 (.ifCond .lt 18) (11) := ri_of (by decide +kernel) rfl
theorem wm_38 : rx_ml (rt_P sc fm) 38 = 2 := (by decide +kernel : rt_ml 38 = 2)
theorem wr_70 : rx_rt (rt_P sc fm) 70 = (some FieldType.boolean) := (by decide +kernel : rt_rt 70 = (some FieldType.boolean))
/-- MarkHouse.isAskable(II)Z -/
def d_70 (n : Nat) (a1 : Int32) (a2 : Int32) (c : cS) : Option (Int32) :=
  Option.bind (d_21 n a1 c) (fun v1 =>
  jn (fun p2 : Int32 =>
    if nb p2 then
    some p2
    else none)
  (fun j27 =>
  jn (fun p4 : Unit =>
    j27 0)
  (fun j26 =>
  if v1 < 0 then
    j26 ()
  else
    Option.bind (d_38 n a2 c) (fun v5 =>
    if v5 = 0 then
      j26 ()
    else
      j27 1))))
theorem sp_70 {F Lo n : Nat} {a1 : Int32} {a2 : Int32} {c y : cS} {w : cW} {K : Int32 → Prop} {Q : ((Option Value) ⊕ String) → List va_E → Prop} (hw : rOK fm w) (hF : 2 ≤ F) (hLo : 44 ≤ Lo)  (h : wp (d_70 n a1 a2 c) K) (hQ : ∀ r, K r → Q (.inl (some (.int r))) (hq true c y w)) : rs (rt_P sc fm) 70 F Lo 0 [(0, .ref 0), (1, .int a1), (2, .int a2)] [] (hq true c y w) Q := by
  unfold d_70 at h
  obtain ⟨lv, elv⟩ : ∃ lv : rx_L, lv = [(0, .ref 0), (1, .int a1), (2, .int a2)] := ⟨_, rfl⟩
  rw [← elv]
  have l0 : rx_ld lv 0 = some (.ref 0) := by rw [elv]; rfl
  have l1 : rx_ld lv 1 = some (.int a1) := by rw [elv]; rfl
  have l2 : rx_ld lv 2 = some (.int a2) := by rw [elv]; rfl
  refine rs_aldn wi_70_0 l0 ?_
  refine dq_gr wi_70_1 wf_70_28 tf_0_2 ?_
  refine rs_ildn wi_70_4 l1 ?_
  refine rs_V wi_70_5 wc_70_146 rfl (dq_isa tf_114_0 wa_2_21) (Nat.le_trans (by decide) hF) (ml_le wm_21 (Nat.le_trans (by decide) hLo)) rfl (sp_21 hw (Nat.le_trans (by decide : 1 ≤ 2 - 1) (Nat.sub_le_sub_right hF 1)) (ml_sub wm_21 (Nat.le_trans (by decide : 21 ≤ 44 - 23) (Nat.sub_le_sub_right hLo 23))) (wp_bind h) (fun v1 h => rs_back1 ?_))
  refine wp_jn (B := fun p2 : Int32 => ∀ lv, rs (rt_P sc fm) 70 F Lo 27 lv [.int p2] (hq true c y w) Q) h (fun p2 h lv => ?_) (fun j27 hj27 h => ?_)
  ·
    obtain ⟨g3, h⟩ := wp_gd h
    exact rs_iret wi_70_27 wr_70 (nb_n g3) (hQ p2 h)
  refine wp_jn (B := fun p4 : Unit => ∀ lv, rs (rt_P sc fm) 70 F Lo 26 lv [] (hq true c y w) Q) h (fun p4 h lv => ?_) (fun j26 hj26 h => ?_)
  ·
    refine rs_pure wi_70_26 rfl ?_
    refine rs_topi (v := 0) (by decide) ?_
    exact hj27 _ h _
  refine rs_iflt (tg := 26) wi_70_8 ⟨by decide, by decide⟩ (fun q => ?_) (fun q => ?_)
  ·
    have h := wp_pos h q
    exact hj26 _ h _
  ·
    have h := wp_neg h q
    refine rs_aldn wi_70_11 l0 ?_
    refine dq_gr wi_70_12 wf_70_19 tf_0_1 ?_
    refine rs_ildn wi_70_15 l2 ?_
    refine rs_V wi_70_16 wc_70_266 rfl (dq_isa tf_7_0 wa_9_38) (Nat.le_trans (by decide) hF) (ml_le wm_38 (Nat.le_trans (by decide) hLo)) rfl (sp_38 hw (Nat.le_trans (by decide : 1 ≤ 2 - 1) (Nat.sub_le_sub_right hF 1)) (ml_sub wm_38 (Nat.le_trans (by decide : 21 ≤ 44 - 21) (Nat.sub_le_sub_right hLo 21))) (wp_bind h) (fun v5 h => rs_back1 ?_))
    refine rs_ifeq (tg := 26) wi_70_19 ⟨by decide, by decide⟩ (fun q => ?_) (fun q => ?_)
    ·
      have h := wp_pos h q
      exact hj26 _ h _
    ·
      have h := wp_neg h q
      refine rs_pure wi_70_22 rfl ?_
      refine rs_topi (v := 1) (by decide) ?_
      refine rs_goto (tg := 27) wi_70_23 ⟨by decide, by decide⟩ ?_
      exact hj27 _ h _
theorem wc_181_130 : rx_ct (rt_P sc fm) 181 130 = some (0, 227, 1) := (by decide +kernel : rt_ct 181 130 = some (0, 227, 1))
theorem wf_181_29 : rx_ft (rt_P sc fm) 181 29 = some (4, 2) := (by decide +kernel : rt_ft 181 29 = some (4, 2))
theorem wf_181_59 : rx_ft (rt_P sc fm) 181 59 = some (7, 8) := (by decide +kernel : rt_ft 181 59 = some (7, 8))
theorem wf_181_64 : rx_ft (rt_P sc fm) 181 64 = some (7, 10) := (by decide +kernel : rt_ft 181 64 = some (7, 10))
theorem wf_181_67 : rx_ft (rt_P sc fm) 181 67 = some (7, 1) := (by decide +kernel : rt_ft 181 67 = some (7, 1))
theorem wf_181_78 : rx_ft (rt_P sc fm) 181 78 = some (7, 4) := (by decide +kernel : rt_ft 181 78 = some (7, 4))
theorem wf_181_81 : rx_ft (rt_P sc fm) 181 81 = some (7, 3) := (by decide +kernel : rt_ft 181 81 = some (7, 3))
theorem wi_181_0 : ri (rt_P sc fm) 181 0 (.iconst 0) (1) := ri_of (by decide +kernel) rfl
theorem wi_181_1 : ri (rt_P sc fm) 181 1 (.istore_n 3) (2) := ri_of (by decide +kernel) rfl
theorem wi_181_100 : ri (rt_P sc fm) 181 100 (.ifCond .le 7) (103) := ri_of (by decide +kernel) rfl
theorem wi_181_103 : ri (rt_P sc fm) 181 103 (.iload_n 3) (104) := ri_of (by decide +kernel) rfl
theorem wi_181_104 : ri (rt_P sc fm) 181 104 (.goto 5) (107) := ri_of (by decide +kernel) rfl
theorem wi_181_107 : ri (rt_P sc fm) 181 107 (.iload 4) (109) := ri_of (by decide +kernel) rfl
theorem wi_181_109 : ri (rt_P sc fm) 181 109 (.ireturn) (110) := ri_of (by decide +kernel) rfl
theorem wi_181_12 : ri (rt_P sc fm) 181 12 (.iload_n 1) (13) := ri_of (by decide +kernel) rfl
theorem wi_181_13 : ri (rt_P sc fm) 181 13 (.iaload) (14) := ri_of (by decide +kernel) rfl
theorem wi_181_14 : ri (rt_P sc fm) 181 14 (.istore 5) (16) := ri_of (by decide +kernel) rfl
theorem wi_181_16 : ri (rt_P sc fm) 181 16 (.iconst 0) (17) := ri_of (by decide +kernel) rfl
theorem wi_181_17 : ri (rt_P sc fm) 181 17 (.istore 6) (19) := ri_of (by decide +kernel) rfl
theorem wi_181_19 : ri (rt_P sc fm) 181 19 (.iload 6) (21) := ri_of (by decide +kernel) rfl
theorem wi_181_2 : ri (rt_P sc fm) 181 2 (.iconst 0) (3) := ri_of (by decide +kernel) rfl
theorem wi_181_21 : ri (rt_P sc fm) 181 21 (.aload_n 0) (22) := ri_of (by decide +kernel) rfl
theorem wi_181_22 : ri (rt_P sc fm) 181 22 (.getfield 29) (25) := ri_of (by decide +kernel) rfl
theorem wi_181_25 : ri (rt_P sc fm) 181 25 (.getfield 64) (28) := ri_of (by decide +kernel) rfl
theorem wi_181_28 : ri (rt_P sc fm) 181 28 (.iload_n 1) (29) := ri_of (by decide +kernel) rfl
theorem wi_181_29 : ri (rt_P sc fm) 181 29 (.iaload) (30) := ri_of (by decide +kernel) rfl
theorem wi_181_3 : ri (rt_P sc fm) 181 3 (.istore 4) (5) := ri_of (by decide +kernel) rfl
theorem wi_181_30 : ri (rt_P sc fm) 181 30 (.if_icmp .ge 69) (33) := ri_of (by decide +kernel) rfl
theorem wi_181_33 : ri (rt_P sc fm) 181 33 (.aload_n 0) (34) := ri_of (by decide +kernel) rfl
theorem wi_181_34 : ri (rt_P sc fm) 181 34 (.getfield 29) (37) := ri_of (by decide +kernel) rfl
theorem wi_181_37 : ri (rt_P sc fm) 181 37 (.getfield 81) (40) := ri_of (by decide +kernel) rfl
theorem wi_181_40 : ri (rt_P sc fm) 181 40 (.iload 5) (42) := ri_of (by decide +kernel) rfl
theorem wi_181_42 : ri (rt_P sc fm) 181 42 (.baload) (43) := ri_of (by decide +kernel) rfl
theorem wi_181_43 : ri (rt_P sc fm) 181 43 (.ifCond .eq 38) (46) := ri_of (by decide +kernel) rfl
theorem wi_181_46 : ri (rt_P sc fm) 181 46 (.aload_n 0) (47) := ri_of (by decide +kernel) rfl
theorem wi_181_47 : ri (rt_P sc fm) 181 47 (.getfield 29) (50) := ri_of (by decide +kernel) rfl
theorem wi_181_5 : ri (rt_P sc fm) 181 5 (.aload_n 0) (6) := ri_of (by decide +kernel) rfl
theorem wi_181_50 : ri (rt_P sc fm) 181 50 (.getfield 67) (53) := ri_of (by decide +kernel) rfl
theorem wi_181_53 : ri (rt_P sc fm) 181 53 (.iload 5) (55) := ri_of (by decide +kernel) rfl
theorem wi_181_55 : ri (rt_P sc fm) 181 55 (.iaload) (56) := ri_of (by decide +kernel) rfl
theorem wi_181_56 : ri (rt_P sc fm) 181 56 (.iload_n 2) (57) := ri_of (by decide +kernel) rfl
theorem wi_181_57 : ri (rt_P sc fm) 181 57 (.if_icmp .ne 24) (60) := ri_of (by decide +kernel) rfl
theorem wi_181_6 : ri (rt_P sc fm) 181 6 (.getfield 29) (9) := ri_of (by decide +kernel) rfl
theorem wi_181_60 : ri (rt_P sc fm) 181 60 (.aload_n 0) (61) := ri_of (by decide +kernel) rfl
theorem wi_181_61 : ri (rt_P sc fm) 181 61 (.getfield 29) (64) := ri_of (by decide +kernel) rfl
theorem wi_181_64 : ri (rt_P sc fm) 181 64 (.iload 5) (66) := ri_of (by decide +kernel) rfl
theorem wi_181_66 : ri (rt_P sc fm) 181 66 (.invokevirtual 130) (69) := ri_of (by decide +kernel) rfl
theorem wi_181_69 : ri (rt_P sc fm) 181 69 (.ifCond .eq 9) (72) := ri_of (by decide +kernel) rfl
theorem wi_181_72 : ri (rt_P sc fm) 181 72 (.iconst (-1)) (73) := ri_of (by decide +kernel) rfl
theorem wi_181_73 : ri (rt_P sc fm) 181 73 (.istore 4) (75) := ri_of (by decide +kernel) rfl
theorem wi_181_75 : ri (rt_P sc fm) 181 75 (.goto 6) (78) := ri_of (by decide +kernel) rfl
theorem wi_181_78 : ri (rt_P sc fm) 181 78 (.iinc 3 1) (81) := ri_of (by decide +kernel) rfl
theorem wi_181_81 : ri (rt_P sc fm) 181 81 (.aload_n 0) (82) := ri_of (by decide +kernel) rfl
theorem wi_181_82 : ri (rt_P sc fm) 181 82 (.getfield 29) (85) := ri_of (by decide +kernel) rfl
theorem wi_181_85 : ri (rt_P sc fm) 181 85 (.getfield 78) (88) := ri_of (by decide +kernel) rfl
theorem wi_181_88 : ri (rt_P sc fm) 181 88 (.iload 5) (90) := ri_of (by decide +kernel) rfl
theorem wi_181_9 : ri (rt_P sc fm) 181 9 (.getfield 59) (12) := ri_of (by decide +kernel) rfl
theorem wi_181_90 : ri (rt_P sc fm) 181 90 (.iaload) (91) := ri_of (by decide +kernel) rfl
theorem wi_181_91 : ri (rt_P sc fm) 181 91 (.istore 5) (93) := ri_of (by decide +kernel) rfl
theorem wi_181_93 : ri (rt_P sc fm) 181 93 (.iinc 6 1) (96) := ri_of (by decide +kernel) rfl
theorem wi_181_96 : ri (rt_P sc fm) 181 96 (.goto (-77)) (99) := ri_of (by decide +kernel) rfl
theorem wi_181_99 : ri (rt_P sc fm) 181 99 (.iload_n 3) (100) := ri_of (by decide +kernel) rfl
theorem wr_181 : rx_rt (rt_P sc fm) 181 = (some FieldType.int) := (by decide +kernel : rt_rt 181 = (some FieldType.int))
/-- MarkHouse$Effects.ownCount(II)I -/
def d_181 (n : Nat) (a1 : Int32) (a2 : Int32) (c : cS) : Option (Int32) :=
  if ib a1 2242 then
  lt ((c.1 142 (ix a1)) : Int32) (fun v5 =>
  Option.bind (whl (R := (Int32 × Int32)) (fun s8 : Int32 × Int32 × Int32 × Int32 =>
    if ib a1 2242 then
    if (c.1 144 (ix a1)) ≤ s8.2.2.2 then
      some (.inr (s8.1, s8.2.1))
    else
      if ib s8.2.2.1 4096 then
      jn (fun p11 : Int32 × Int32 =>
        if ib s8.2.2.1 4096 then
        lt ((c.1 138 (ix s8.2.2.1)) : Int32) (fun v14 =>
        lt (s8.2.2.2 + 1 : Int32) (fun v17 =>
        some (.inl (p11.1, p11.2, v14, v17))))
        else none)
      (fun j81 =>
      if (c.1 137 (ix s8.2.2.1)) = 0 then
        j81 (s8.1, s8.2.1)
      else
        if ib s8.2.2.1 4096 then
        if (c.1 135 (ix s8.2.2.1)) = a2 then
          Option.bind (d_227 n s8.2.2.1 c) (fun v20 =>
          if v20 = 0 then
            lt (s8.1 + 1 : Int32) (fun v22 =>
            j81 (v22, s8.2.1))
          else
            j81 (s8.1, (-1)))
        else
          j81 (s8.1, s8.2.1)
        else none)
      else none
    else none) n (0, 0, v5, 0))
  (fun x25 : Int32 × Int32 =>
    jn (fun p26 : Int32 =>
      some p26)
    (fun j109 =>
    if x25.1 ≤ 0 then
      j109 x25.2
    else
      j109 x25.1)))
  else none
theorem sp_181 {F Lo n : Nat} {a1 : Int32} {a2 : Int32} {c y : cS} {w : cW} {K : Int32 → Prop} {Q : ((Option Value) ⊕ String) → List va_E → Prop} (hw : rOK fm w) (hF : 1 ≤ F) (hLo : 21 ≤ Lo)  (h : wp (d_181 n a1 a2 c) K) (hQ : ∀ r, K r → Q (.inl (some (.int r))) (hq true c y w)) : rs (rt_P sc fm) 181 F Lo 0 [(0, .ref 146), (1, .int a1), (2, .int a2)] [] (hq true c y w) Q := by
  unfold d_181 at h
  obtain ⟨lv, elv⟩ : ∃ lv : rx_L, lv = [(0, .ref 146), (1, .int a1), (2, .int a2)] := ⟨_, rfl⟩
  rw [← elv]
  have l0 : rx_ld lv 0 = some (.ref 146) := by rw [elv]; rfl
  have l1 : rx_ld lv 1 = some (.int a1) := by rw [elv]; rfl
  have l2 : rx_ld lv 2 = some (.int a2) := by rw [elv]; rfl
  refine rs_pure wi_181_0 rfl ?_
  refine rs_topi (v := 0) (by decide) ?_
  refine dl_istn wi_181_1 rfl (fun lv l3 t1 => ?_)
  have l0 := t1 _ _ (by decide) (Or.inl rfl) l0
  have l1 := t1 _ _ (by decide) (Or.inl rfl) l1
  have l2 := t1 _ _ (by decide) (Or.inl rfl) l2
  refine rs_pure wi_181_2 rfl ?_
  refine rs_topi (v := 0) (by decide) ?_
  refine dl_ist wi_181_3 rfl (fun lv l4 t2 => ?_)
  have l0 := t2 _ _ (by decide) (Or.inl rfl) l0
  have l1 := t2 _ _ (by decide) (Or.inl rfl) l1
  have l2 := t2 _ _ (by decide) (Or.inl rfl) l2
  have l3 := t2 _ _ (by decide) (Or.inl rfl) l3
  refine rs_aldn wi_181_5 l0 ?_
  refine dq_gr wi_181_6 wf_181_29 tf_146_2 ?_
  refine dq_gr wi_181_9 wf_181_59 tf_133_8 ?_
  refine rs_ildn wi_181_12 l1 ?_
  obtain ⟨g3, h⟩ := wp_gd h
  refine dq_iald wi_181_13 t_142 g3 ?_
  obtain ⟨v5, e6, h⟩ := wp_lt h
  refine rs_topi e6 ?_
  refine dl_ist wi_181_14 rfl (fun lv l5 t4 => ?_)
  have l0 := t4 _ _ (by decide) (Or.inl rfl) l0
  have l1 := t4 _ _ (by decide) (Or.inl rfl) l1
  have l2 := t4 _ _ (by decide) (Or.inl rfl) l2
  have l3 := t4 _ _ (by decide) (Or.inl rfl) l3
  have l4 := t4 _ _ (by decide) (Or.inl rfl) l4
  refine rs_pure wi_181_16 rfl ?_
  refine rs_topi (v := 0) (by decide) ?_
  refine dl_ist wi_181_17 rfl (fun lv l6 t7 => ?_)
  have l0 := t7 _ _ (by decide) (Or.inl rfl) l0
  have l1 := t7 _ _ (by decide) (Or.inl rfl) l1
  have l2 := t7 _ _ (by decide) (Or.inl rfl) l2
  have l3 := t7 _ _ (by decide) (Or.inl rfl) l3
  have l4 := t7 _ _ (by decide) (Or.inl rfl) l4
  have l5 := t7 _ _ (by decide) (Or.inl rfl) l5
  refine whl_ex (A := fun s8 : Int32 × Int32 × Int32 × Int32 => ∀ lv, rx_ld lv 0 = some (.ref 146) → rx_ld lv 1 = some (.int a1) → rx_ld lv 2 = some (.int a2) → rx_ld lv 3 = some (.int s8.1) → rx_ld lv 4 = some (.int s8.2.1) → rx_ld lv 5 = some (.int s8.2.2.1) → rx_ld lv 6 = some (.int s8.2.2.2) → rs (rt_P sc fm) 181 F Lo 19 lv [] (hq true c y w) Q) (B := (fun x25 : Int32 × Int32 => ∀ lv, rx_ld lv 3 = some (.int x25.1) → rx_ld lv 4 = some (.int x25.2) → rs (rt_P sc fm) 181 F Lo 99 lv [] (hq true c y w) Q)) ?_ ?_ _ _ (wp_bind h) _ l0 l1 l2 l3 l4 l5 l6
  · intro s8 h lv l0 l1 l2 l3 l4 l5 l6
    refine rs_ild wi_181_19 l6 ?_
    refine rs_aldn wi_181_21 l0 ?_
    refine dq_gr wi_181_22 wf_181_29 tf_146_2 ?_
    refine dq_gr wi_181_25 wf_181_64 tf_133_10 ?_
    refine rs_ildn wi_181_28 l1 ?_
    obtain ⟨g9, h⟩ := wp_gd h
    refine dq_iald wi_181_29 t_144 g9 ?_
    refine rs_icge (tg := 99) wi_181_30 ⟨by decide, by decide⟩ (fun q => ?_) (fun q => ?_)
    ·
      have h := wp_pos h q
      exact h _ l3 l4
    ·
      have h := wp_neg h q
      refine rs_aldn wi_181_33 l0 ?_
      refine dq_gr wi_181_34 wf_181_29 tf_146_2 ?_
      refine dq_gr wi_181_37 wf_181_81 tf_133_3 ?_
      refine rs_ild wi_181_40 l5 ?_
      obtain ⟨g10, h⟩ := wp_gd h
      refine dq_zald wi_181_42 t_137 g10 ?_
      refine wp_jn (B := fun p11 : Int32 × Int32 => ∀ lv, rx_ld lv 0 = some (.ref 146) → rx_ld lv 1 = some (.int a1) → rx_ld lv 2 = some (.int a2) → rx_ld lv 3 = some (.int p11.1) → rx_ld lv 4 = some (.int p11.2) → rx_ld lv 5 = some (.int s8.2.2.1) → rx_ld lv 6 = some (.int s8.2.2.2) → rs (rt_P sc fm) 181 F Lo 81 lv [] (hq true c y w) Q) h (fun p11 h lv l0 l1 l2 l3 l4 l5 l6 => ?_) (fun j81 hj81 h => ?_)
      ·
        refine rs_aldn wi_181_81 l0 ?_
        refine dq_gr wi_181_82 wf_181_29 tf_146_2 ?_
        refine dq_gr wi_181_85 wf_181_78 tf_133_4 ?_
        refine rs_ild wi_181_88 l5 ?_
        obtain ⟨g12, h⟩ := wp_gd h
        refine dq_iald wi_181_90 t_138 g12 ?_
        obtain ⟨v14, e15, h⟩ := wp_lt h
        refine rs_topi e15 ?_
        refine dl_ist wi_181_91 rfl (fun lv l5 t13 => ?_)
        have l0 := t13 _ _ (by decide) (Or.inl rfl) l0
        have l1 := t13 _ _ (by decide) (Or.inl rfl) l1
        have l2 := t13 _ _ (by decide) (Or.inl rfl) l2
        have l3 := t13 _ _ (by decide) (Or.inl rfl) l3
        have l4 := t13 _ _ (by decide) (Or.inl rfl) l4
        have l6 := t13 _ _ (by decide) (Or.inl rfl) l6
        obtain ⟨v17, e18, h⟩ := wp_lt h
        refine dl_inc wi_181_93 l6 rfl e18 (fun lv l6 t16 => ?_)
        have l0 := t16 _ _ (by decide) (Or.inl rfl) l0
        have l1 := t16 _ _ (by decide) (Or.inl rfl) l1
        have l2 := t16 _ _ (by decide) (Or.inl rfl) l2
        have l3 := t16 _ _ (by decide) (Or.inl rfl) l3
        have l4 := t16 _ _ (by decide) (Or.inl rfl) l4
        have l5 := t16 _ _ (by decide) (Or.inl rfl) l5
        refine rs_goto (tg := 19) wi_181_96 ⟨by decide, by decide⟩ ?_
        exact h _ l0 l1 l2 l3 l4 l5 l6
      refine rs_ifeq (tg := 81) wi_181_43 ⟨by decide, by decide⟩ (fun q => ?_) (fun q => ?_)
      ·
        have h := wp_pos h q
        exact hj81 _ h _ l0 l1 l2 l3 l4 l5 l6
      ·
        have h := wp_neg h q
        refine rs_aldn wi_181_46 l0 ?_
        refine dq_gr wi_181_47 wf_181_29 tf_146_2 ?_
        refine dq_gr wi_181_50 wf_181_67 tf_133_1 ?_
        refine rs_ild wi_181_53 l5 ?_
        obtain ⟨g19, h⟩ := wp_gd h
        refine dq_iald wi_181_55 t_135 g19 ?_
        refine rs_ildn wi_181_56 l2 ?_
        refine rs_icne (tg := 81) wi_181_57 ⟨by decide, by decide⟩ (fun q => ?_) (fun q => ?_)
        ·
          have h := wp_neg h q
          exact hj81 _ h _ l0 l1 l2 l3 l4 l5 l6
        ·
          have h := wp_pos h q
          refine rs_aldn wi_181_60 l0 ?_
          refine dq_gr wi_181_61 wf_181_29 tf_146_2 ?_
          refine rs_ild wi_181_64 l5 ?_
          refine rs_V wi_181_66 wc_181_130 rfl (dq_isa tf_133_0 wa_7_227) (Nat.le_trans (by decide) hF) (ml_le wm_227 (Nat.le_trans (by decide) hLo)) rfl (sp_227 hw (Nat.le_trans (by decide : 0 ≤ 1 - 1) (Nat.sub_le_sub_right hF 1)) (ml_sub wm_227 (Nat.le_trans (by decide : 0 ≤ 21 - 21) (Nat.sub_le_sub_right hLo 21))) (wp_bind h) (fun v20 h => rs_back1 ?_))
          refine rs_ifeq (tg := 78) wi_181_69 ⟨by decide, by decide⟩ (fun q => ?_) (fun q => ?_)
          ·
            have h := wp_pos h q
            obtain ⟨v22, e23, h⟩ := wp_lt h
            refine dl_inc wi_181_78 l3 rfl e23 (fun lv l3 t21 => ?_)
            have l0 := t21 _ _ (by decide) (Or.inl rfl) l0
            have l1 := t21 _ _ (by decide) (Or.inl rfl) l1
            have l2 := t21 _ _ (by decide) (Or.inl rfl) l2
            have l4 := t21 _ _ (by decide) (Or.inl rfl) l4
            have l5 := t21 _ _ (by decide) (Or.inl rfl) l5
            have l6 := t21 _ _ (by decide) (Or.inl rfl) l6
            exact hj81 _ h _ l0 l1 l2 l3 l4 l5 l6
          ·
            have h := wp_neg h q
            refine rs_pure wi_181_72 rfl ?_
            refine rs_topi (v := (-1)) (by decide) ?_
            refine dl_ist wi_181_73 rfl (fun lv l4 t24 => ?_)
            have l0 := t24 _ _ (by decide) (Or.inl rfl) l0
            have l1 := t24 _ _ (by decide) (Or.inl rfl) l1
            have l2 := t24 _ _ (by decide) (Or.inl rfl) l2
            have l3 := t24 _ _ (by decide) (Or.inl rfl) l3
            have l5 := t24 _ _ (by decide) (Or.inl rfl) l5
            have l6 := t24 _ _ (by decide) (Or.inl rfl) l6
            refine rs_goto (tg := 81) wi_181_75 ⟨by decide, by decide⟩ ?_
            exact hj81 _ h _ l0 l1 l2 l3 l4 l5 l6
  ·
    intro x25 h lv l3 l4
    refine rs_ildn wi_181_99 l3 ?_
    refine wp_jn (B := fun p26 : Int32 => ∀ lv, rs (rt_P sc fm) 181 F Lo 109 lv [.int p26] (hq true c y w) Q) h (fun p26 h lv => ?_) (fun j109 hj109 h => ?_)
    ·
      exact rs_iret wi_181_109 wr_181 rfl (hQ p26 h)
    refine rs_ifle (tg := 107) wi_181_100 ⟨by decide, by decide⟩ (fun q => ?_) (fun q => ?_)
    ·
      have h := wp_pos h q
      refine rs_ild wi_181_107 l4 ?_
      exact hj109 _ h _
    ·
      have h := wp_neg h q
      refine rs_ildn wi_181_103 l3 ?_
      refine rs_goto (tg := 109) wi_181_104 ⟨by decide, by decide⟩ ?_
      exact hj109 _ h _
theorem wf_219_26 : rx_ft (rt_P sc fm) 219 26 = some (6, 9) := (by decide +kernel : rt_ft 219 26 = some (6, 9))
theorem wi_219_0 : ri (rt_P sc fm) 219 0 (.aload_n 0) (1) := ri_of (by decide +kernel) rfl
theorem wi_219_1 : ri (rt_P sc fm) 219 1 (.getfield 26) (4) := ri_of (by decide +kernel) rfl
theorem wi_219_10 : ri (rt_P sc fm) 219 10 (.bipush 12) (12) := ri_of (by decide +kernel) rfl
theorem wi_219_12 : ri (rt_P sc fm) 219 12 (.iload_n 1) (13) := ri_of (by decide +kernel) rfl
theorem wi_219_13 : ri (rt_P sc fm) 219 13 (.iadd) (14) := ri_of (by decide +kernel) rfl
theorem wi_219_14 : ri (rt_P sc fm) 219 14 (.bipush 100) (16) := ri_of (by decide +kernel) rfl
theorem wi_219_16 : ri (rt_P sc fm) 219 16 (.isub) (17) := ri_of (by decide +kernel) rfl
theorem wi_219_17 : ri (rt_P sc fm) 219 17 (.goto 4) (20) := ri_of (by decide +kernel) rfl
theorem wi_219_20 : ri (rt_P sc fm) 219 20 (.iload_n 1) (21) := ri_of (by decide +kernel) rfl
theorem wi_219_21 : ri (rt_P sc fm) 219 21 (.iaload) (22) := ri_of (by decide +kernel) rfl
theorem wi_219_22 : ri (rt_P sc fm) 219 22 (.ireturn) (23) := ri_of (by decide +kernel) rfl
theorem wi_219_4 : ri (rt_P sc fm) 219 4 (.iload_n 1) (5) := ri_of (by decide +kernel) rfl
theorem wi_219_5 : ri (rt_P sc fm) 219 5 (.bipush 100) (7) := ri_of (by decide +kernel) rfl
theorem wi_219_7 : ri (rt_P sc fm) 219 7 (.if_icmp .lt 13) (10) := ri_of (by decide +kernel) rfl
theorem wr_219 : rx_rt (rt_P sc fm) 219 = (some FieldType.int) := (by decide +kernel : rt_rt 219 = (some FieldType.int))
/-- MarkHouse$Kind.givenOf(I)I -/
def d_219 (n : Nat) (k0 : Nat) (a1 : Int32) (c : cS) : Option (Int32) :=
  jn (fun p1 : Int32 =>
    if ib p1 16 then
    some (c.1 (kA k0 + 5) (ix p1))
    else none)
  (fun j21 =>
  if a1 < 100 then
    j21 a1
  else
    j21 ((12 + a1) - 100))
theorem sp_219 {F Lo n : Nat} {k0 : Nat} {a1 : Int32} {c y : cS} {w : cW} {K : Int32 → Prop} {Q : ((Option Value) ⊕ String) → List va_E → Prop} (hw : rOK fm w) (hF : 0 ≤ F) (hLo : 0 ≤ Lo) (hk0 : k0 < 12) (h : wp (d_219 n k0 a1 c) K) (hQ : ∀ r, K r → Q (.inl (some (.int r))) (hq true c y w)) : rs (rt_P sc fm) 219 F Lo 0 [(0, .ref (kA k0)), (1, .int a1)] [] (hq true c y w) Q := by
  unfold d_219 at h
  obtain ⟨lv, elv⟩ : ∃ lv : rx_L, lv = [(0, .ref (kA k0)), (1, .int a1)] := ⟨_, rfl⟩
  rw [← elv]
  have l0 : rx_ld lv 0 = some (.ref (kA k0)) := by rw [elv]; rfl
  have l1 : rx_ld lv 1 = some (.int a1) := by rw [elv]; rfl
  refine rs_aldn wi_219_0 l0 ?_
  refine dq_gr wi_219_1 wf_219_26 (fK_9 hk0) ?_
  refine rs_ildn wi_219_4 l1 ?_
  refine rs_pure wi_219_5 rfl ?_
  refine rs_topi (v := 100) (by decide) ?_
  refine wp_jn (B := fun p1 : Int32 => ∀ lv, rs (rt_P sc fm) 219 F Lo 21 lv [.int p1, .ref (kA k0 + 5)] (hq true c y w) Q) h (fun p1 h lv => ?_) (fun j21 hj21 h => ?_)
  ·
    obtain ⟨g2, h⟩ := wp_gd h
    refine dq_iald wi_219_21 (tK_5 hk0) g2 ?_
    exact rs_iret wi_219_22 wr_219 rfl (hQ (c.1 (kA k0 + 5) (ix p1)) h)
  refine rs_iclt (tg := 20) wi_219_7 ⟨by decide, by decide⟩ (fun q => ?_) (fun q => ?_)
  ·
    have h := wp_pos h q
    refine rs_ildn wi_219_20 l1 ?_
    exact hj21 _ h _
  ·
    have h := wp_neg h q
    refine rs_pure wi_219_10 rfl ?_
    refine rs_topi (v := 12) (by decide) ?_
    refine rs_ildn wi_219_12 l1 ?_
    refine rs_pure wi_219_13 rfl ?_
    refine rs_pure wi_219_14 rfl ?_
    refine rs_topi (v := 100) (by decide) ?_
    refine rs_pure wi_219_16 rfl ?_
    refine rs_goto (tg := 21) wi_219_17 ⟨by decide, by decide⟩ ?_
    exact hj21 _ h _
theorem wa_6_219 : rz_cn 6 (rx_yn (rt_P sc fm) 219).cls = true := (by decide +kernel : rz_cn 6 (rt_yn 219).cls = true)
theorem wc_183_130 : rx_ct (rt_P sc fm) 183 130 = some (0, 227, 1) := (by decide +kernel : rt_ct 183 130 = some (0, 227, 1))
theorem wc_183_136 : rx_ct (rt_P sc fm) 183 136 = some (0, 219, 1) := (by decide +kernel : rt_ct 183 136 = some (0, 219, 1))
theorem wf_183_106 : rx_ft (rt_P sc fm) 183 106 = some (9, 3) := (by decide +kernel : rt_ft 183 106 = some (9, 3))
theorem wf_183_21 : rx_ft (rt_P sc fm) 183 21 = some (4, 0) := (by decide +kernel : rt_ft 183 21 = some (4, 0))
theorem wf_183_29 : rx_ft (rt_P sc fm) 183 29 = some (4, 2) := (by decide +kernel : rt_ft 183 29 = some (4, 2))
theorem wf_183_67 : rx_ft (rt_P sc fm) 183 67 = some (7, 1) := (by decide +kernel : rt_ft 183 67 = some (7, 1))
theorem wf_183_81 : rx_ft (rt_P sc fm) 183 81 = some (7, 3) := (by decide +kernel : rt_ft 183 81 = some (7, 3))
theorem wi_183_0 : ri (rt_P sc fm) 183 0 (.aload_n 0) (1) := ri_of (by decide +kernel) rfl
theorem wi_183_1 : ri (rt_P sc fm) 183 1 (.getfield 29) (4) := ri_of (by decide +kernel) rfl
theorem wi_183_12 : ri (rt_P sc fm) 183 12 (.aload_n 0) (13) := ri_of (by decide +kernel) rfl
theorem wi_183_13 : ri (rt_P sc fm) 183 13 (.getfield 29) (16) := ri_of (by decide +kernel) rfl
theorem wi_183_16 : ri (rt_P sc fm) 183 16 (.iload_n 1) (17) := ri_of (by decide +kernel) rfl
theorem wi_183_17 : ri (rt_P sc fm) 183 17 (.invokevirtual 130) (20) := ri_of (by decide +kernel) rfl
theorem wi_183_20 : ri (rt_P sc fm) 183 20 (.ifCond .ne 17) (23) := ri_of (by decide +kernel) rfl
theorem wi_183_23 : ri (rt_P sc fm) 183 23 (.aload_n 0) (24) := ri_of (by decide +kernel) rfl
theorem wi_183_24 : ri (rt_P sc fm) 183 24 (.getfield 29) (27) := ri_of (by decide +kernel) rfl
theorem wi_183_27 : ri (rt_P sc fm) 183 27 (.getfield 67) (30) := ri_of (by decide +kernel) rfl
theorem wi_183_30 : ri (rt_P sc fm) 183 30 (.iload_n 1) (31) := ri_of (by decide +kernel) rfl
theorem wi_183_31 : ri (rt_P sc fm) 183 31 (.iaload) (32) := ri_of (by decide +kernel) rfl
theorem wi_183_32 : ri (rt_P sc fm) 183 32 (.bipush 100) (34) := ri_of (by decide +kernel) rfl
theorem wi_183_34 : ri (rt_P sc fm) 183 34 (.if_icmp .lt 5) (37) := ri_of (by decide +kernel) rfl
theorem wi_183_37 : ri (rt_P sc fm) 183 37 (.iconst (-1)) (38) := ri_of (by decide +kernel) rfl
theorem wi_183_38 : ri (rt_P sc fm) 183 38 (.ireturn) (39) := ri_of (by decide +kernel) rfl
theorem wi_183_39 : ri (rt_P sc fm) 183 39 (.aload_n 0) (40) := ri_of (by decide +kernel) rfl
theorem wi_183_4 : ri (rt_P sc fm) 183 4 (.getfield 81) (7) := ri_of (by decide +kernel) rfl
theorem wi_183_40 : ri (rt_P sc fm) 183 40 (.getfield 21) (43) := ri_of (by decide +kernel) rfl
theorem wi_183_43 : ri (rt_P sc fm) 183 43 (.getfield 106) (46) := ri_of (by decide +kernel) rfl
theorem wi_183_46 : ri (rt_P sc fm) 183 46 (.aload_n 0) (47) := ri_of (by decide +kernel) rfl
theorem wi_183_47 : ri (rt_P sc fm) 183 47 (.getfield 29) (50) := ri_of (by decide +kernel) rfl
theorem wi_183_50 : ri (rt_P sc fm) 183 50 (.getfield 67) (53) := ri_of (by decide +kernel) rfl
theorem wi_183_53 : ri (rt_P sc fm) 183 53 (.iload_n 1) (54) := ri_of (by decide +kernel) rfl
theorem wi_183_54 : ri (rt_P sc fm) 183 54 (.iaload) (55) := ri_of (by decide +kernel) rfl
theorem wi_183_55 : ri (rt_P sc fm) 183 55 (.aaload) (56) := ri_of (by decide +kernel) rfl
theorem wi_183_56 : ri (rt_P sc fm) 183 56 (.iload_n 2) (57) := ri_of (by decide +kernel) rfl
theorem wi_183_57 : ri (rt_P sc fm) 183 57 (.invokevirtual 136) (60) := ri_of (by decide +kernel) rfl
theorem wi_183_60 : ri (rt_P sc fm) 183 60 (.ireturn) (61) := ri_of (by decide +kernel) rfl
theorem wi_183_7 : ri (rt_P sc fm) 183 7 (.iload_n 1) (8) := ri_of (by decide +kernel) rfl
theorem wi_183_8 : ri (rt_P sc fm) 183 8 (.baload) (9) := ri_of (by decide +kernel) rfl
theorem wi_183_9 : ri (rt_P sc fm) 183 9 (.ifCond .eq 28) (12) := ri_of (by decide +kernel) rfl
theorem wm_219 : rx_ml (rt_P sc fm) 219 = 2 := (by decide +kernel : rt_ml 219 = 2)
theorem wr_183 : rx_rt (rt_P sc fm) 183 = (some FieldType.int) := (by decide +kernel : rt_rt 183 = (some FieldType.int))
/-- MarkHouse$Effects.givenBy(II)I -/
def d_183 (n : Nat) (a1 : Int32) (a2 : Int32) (c : cS) : Option (Int32) :=
  if ib a1 4096 then
  jn (fun p2 : Unit =>
    some (-1))
  (fun j37 =>
  if (c.1 137 (ix a1)) = 0 then
    j37 ()
  else
    Option.bind (d_227 n a1 c) (fun v3 =>
    if v3 = 0 then
      if ib a1 4096 then
      if (c.1 135 (ix a1)) < 100 then
        if ib a1 4096 then
        if ib (c.1 135 (ix a1)) 12 then
        Option.bind (d_219 n (ix (c.1 135 (ix a1))) a2 c) (fun v7 =>
        some v7)
        else none
        else none
      else
        j37 ()
      else none
    else
      j37 ()))
  else none
theorem sp_183 {F Lo n : Nat} {a1 : Int32} {a2 : Int32} {c y : cS} {w : cW} {K : Int32 → Prop} {Q : ((Option Value) ⊕ String) → List va_E → Prop} (hw : rOK fm w) (hF : 1 ≤ F) (hLo : 21 ≤ Lo)  (h : wp (d_183 n a1 a2 c) K) (hQ : ∀ r, K r → Q (.inl (some (.int r))) (hq true c y w)) : rs (rt_P sc fm) 183 F Lo 0 [(0, .ref 146), (1, .int a1), (2, .int a2)] [] (hq true c y w) Q := by
  unfold d_183 at h
  obtain ⟨lv, elv⟩ : ∃ lv : rx_L, lv = [(0, .ref 146), (1, .int a1), (2, .int a2)] := ⟨_, rfl⟩
  rw [← elv]
  have l0 : rx_ld lv 0 = some (.ref 146) := by rw [elv]; rfl
  have l1 : rx_ld lv 1 = some (.int a1) := by rw [elv]; rfl
  have l2 : rx_ld lv 2 = some (.int a2) := by rw [elv]; rfl
  refine rs_aldn wi_183_0 l0 ?_
  refine dq_gr wi_183_1 wf_183_29 tf_146_2 ?_
  refine dq_gr wi_183_4 wf_183_81 tf_133_3 ?_
  refine rs_ildn wi_183_7 l1 ?_
  obtain ⟨g1, h⟩ := wp_gd h
  refine dq_zald wi_183_8 t_137 g1 ?_
  refine wp_jn (B := fun p2 : Unit => ∀ lv, rs (rt_P sc fm) 183 F Lo 37 lv [] (hq true c y w) Q) h (fun p2 h lv => ?_) (fun j37 hj37 h => ?_)
  ·
    refine rs_pure wi_183_37 rfl ?_
    refine rs_topi (v := (-1)) (by decide) ?_
    exact rs_iret wi_183_38 wr_183 rfl (hQ (-1) h)
  refine rs_ifeq (tg := 37) wi_183_9 ⟨by decide, by decide⟩ (fun q => ?_) (fun q => ?_)
  ·
    have h := wp_pos h q
    exact hj37 _ h _
  ·
    have h := wp_neg h q
    refine rs_aldn wi_183_12 l0 ?_
    refine dq_gr wi_183_13 wf_183_29 tf_146_2 ?_
    refine rs_ildn wi_183_16 l1 ?_
    refine rs_V wi_183_17 wc_183_130 rfl (dq_isa tf_133_0 wa_7_227) (Nat.le_trans (by decide) hF) (ml_le wm_227 (Nat.le_trans (by decide) hLo)) rfl (sp_227 hw (Nat.le_trans (by decide : 0 ≤ 1 - 1) (Nat.sub_le_sub_right hF 1)) (ml_sub wm_227 (Nat.le_trans (by decide : 0 ≤ 21 - 21) (Nat.sub_le_sub_right hLo 21))) (wp_bind h) (fun v3 h => rs_back1 ?_))
    refine rs_ifne (tg := 37) wi_183_20 ⟨by decide, by decide⟩ (fun q => ?_) (fun q => ?_)
    ·
      have h := wp_neg h q
      exact hj37 _ h _
    ·
      have h := wp_pos h q
      refine rs_aldn wi_183_23 l0 ?_
      refine dq_gr wi_183_24 wf_183_29 tf_146_2 ?_
      refine dq_gr wi_183_27 wf_183_67 tf_133_1 ?_
      refine rs_ildn wi_183_30 l1 ?_
      obtain ⟨g4, h⟩ := wp_gd h
      refine dq_iald wi_183_31 t_135 g4 ?_
      refine rs_pure wi_183_32 rfl ?_
      refine rs_topi (v := 100) (by decide) ?_
      refine rs_iclt (tg := 39) wi_183_34 ⟨by decide, by decide⟩ (fun q => ?_) (fun q => ?_)
      ·
        have h := wp_pos h q
        refine rs_aldn wi_183_39 l0 ?_
        refine dq_gr wi_183_40 wf_183_21 tf_146_0 ?_
        refine dq_gr wi_183_43 wf_183_106 tf_7_3 ?_
        refine rs_aldn wi_183_46 l0 ?_
        refine dq_gr wi_183_47 wf_183_29 tf_146_2 ?_
        refine dq_gr wi_183_50 wf_183_67 tf_133_1 ?_
        refine rs_ildn wi_183_53 l1 ?_
        obtain ⟨g5, h⟩ := wp_gd h
        refine dq_iald wi_183_54 t_135 g5 ?_
        obtain ⟨g6, h⟩ := wp_gd h
        refine dq_aald wi_183_55 (by decide) t_9 g6 (hw.2.1 _ (ib_lt g6)) ?_
        refine rs_ildn wi_183_56 l2 ?_
        refine rs_V wi_183_57 wc_183_136 rfl (dq_isa (fK_0 (ib_lt g6)) wa_6_219) (Nat.le_trans (by decide) hF) (ml_le wm_219 (Nat.le_trans (by decide) hLo)) rfl (sp_219 hw (Nat.le_trans (by decide : 0 ≤ 1 - 1) (Nat.sub_le_sub_right hF 1)) (ml_sub wm_219 (Nat.le_trans (by decide : 0 ≤ 21 - 21) (Nat.sub_le_sub_right hLo 21))) (ib_lt g6) (wp_bind h) (fun v7 h => rs_back1 ?_))
        exact rs_iret wi_183_60 wr_183 rfl (hQ v7 h)
      ·
        have h := wp_neg h q
        exact hj37 _ h _
theorem wa_4_183 : rz_cn 4 (rx_yn (rt_P sc fm) 183).cls = true := (by decide +kernel : rz_cn 4 (rt_yn 183).cls = true)
theorem wc_182_133 : rx_ct (rt_P sc fm) 182 133 = some (0, 183, 2) := (by decide +kernel : rt_ct 182 133 = some (0, 183, 2))
theorem wf_182_29 : rx_ft (rt_P sc fm) 182 29 = some (4, 2) := (by decide +kernel : rt_ft 182 29 = some (4, 2))
theorem wf_182_59 : rx_ft (rt_P sc fm) 182 59 = some (7, 8) := (by decide +kernel : rt_ft 182 59 = some (7, 8))
theorem wf_182_64 : rx_ft (rt_P sc fm) 182 64 = some (7, 10) := (by decide +kernel : rt_ft 182 64 = some (7, 10))
theorem wf_182_78 : rx_ft (rt_P sc fm) 182 78 = some (7, 4) := (by decide +kernel : rt_ft 182 78 = some (7, 4))
theorem wi_182_0 : ri (rt_P sc fm) 182 0 (.aload_n 0) (1) := ri_of (by decide +kernel) rfl
theorem wi_182_1 : ri (rt_P sc fm) 182 1 (.getfield 29) (4) := ri_of (by decide +kernel) rfl
theorem wi_182_10 : ri (rt_P sc fm) 182 10 (.iconst 0) (11) := ri_of (by decide +kernel) rfl
theorem wi_182_11 : ri (rt_P sc fm) 182 11 (.istore 4) (13) := ri_of (by decide +kernel) rfl
theorem wi_182_13 : ri (rt_P sc fm) 182 13 (.iload 4) (15) := ri_of (by decide +kernel) rfl
theorem wi_182_15 : ri (rt_P sc fm) 182 15 (.aload_n 0) (16) := ri_of (by decide +kernel) rfl
theorem wi_182_16 : ri (rt_P sc fm) 182 16 (.getfield 29) (19) := ri_of (by decide +kernel) rfl
theorem wi_182_19 : ri (rt_P sc fm) 182 19 (.getfield 64) (22) := ri_of (by decide +kernel) rfl
theorem wi_182_22 : ri (rt_P sc fm) 182 22 (.iload_n 1) (23) := ri_of (by decide +kernel) rfl
theorem wi_182_23 : ri (rt_P sc fm) 182 23 (.iaload) (24) := ri_of (by decide +kernel) rfl
theorem wi_182_24 : ri (rt_P sc fm) 182 24 (.if_icmp .ge 35) (27) := ri_of (by decide +kernel) rfl
theorem wi_182_27 : ri (rt_P sc fm) 182 27 (.aload_n 0) (28) := ri_of (by decide +kernel) rfl
theorem wi_182_28 : ri (rt_P sc fm) 182 28 (.iload_n 3) (29) := ri_of (by decide +kernel) rfl
theorem wi_182_29 : ri (rt_P sc fm) 182 29 (.iload_n 2) (30) := ri_of (by decide +kernel) rfl
theorem wi_182_30 : ri (rt_P sc fm) 182 30 (.invokevirtual 133) (33) := ri_of (by decide +kernel) rfl
theorem wi_182_33 : ri (rt_P sc fm) 182 33 (.istore 5) (35) := ri_of (by decide +kernel) rfl
theorem wi_182_35 : ri (rt_P sc fm) 182 35 (.iload 5) (37) := ri_of (by decide +kernel) rfl
theorem wi_182_37 : ri (rt_P sc fm) 182 37 (.ifCond .lt 6) (40) := ri_of (by decide +kernel) rfl
theorem wi_182_4 : ri (rt_P sc fm) 182 4 (.getfield 59) (7) := ri_of (by decide +kernel) rfl
theorem wi_182_40 : ri (rt_P sc fm) 182 40 (.iload 5) (42) := ri_of (by decide +kernel) rfl
theorem wi_182_42 : ri (rt_P sc fm) 182 42 (.ireturn) (43) := ri_of (by decide +kernel) rfl
theorem wi_182_43 : ri (rt_P sc fm) 182 43 (.aload_n 0) (44) := ri_of (by decide +kernel) rfl
theorem wi_182_44 : ri (rt_P sc fm) 182 44 (.getfield 29) (47) := ri_of (by decide +kernel) rfl
theorem wi_182_47 : ri (rt_P sc fm) 182 47 (.getfield 78) (50) := ri_of (by decide +kernel) rfl
theorem wi_182_50 : ri (rt_P sc fm) 182 50 (.iload_n 3) (51) := ri_of (by decide +kernel) rfl
theorem wi_182_51 : ri (rt_P sc fm) 182 51 (.iaload) (52) := ri_of (by decide +kernel) rfl
theorem wi_182_52 : ri (rt_P sc fm) 182 52 (.istore_n 3) (53) := ri_of (by decide +kernel) rfl
theorem wi_182_53 : ri (rt_P sc fm) 182 53 (.iinc 4 1) (56) := ri_of (by decide +kernel) rfl
theorem wi_182_56 : ri (rt_P sc fm) 182 56 (.goto (-43)) (59) := ri_of (by decide +kernel) rfl
theorem wi_182_59 : ri (rt_P sc fm) 182 59 (.iconst (-1)) (60) := ri_of (by decide +kernel) rfl
theorem wi_182_60 : ri (rt_P sc fm) 182 60 (.ireturn) (61) := ri_of (by decide +kernel) rfl
theorem wi_182_7 : ri (rt_P sc fm) 182 7 (.iload_n 1) (8) := ri_of (by decide +kernel) rfl
theorem wi_182_8 : ri (rt_P sc fm) 182 8 (.iaload) (9) := ri_of (by decide +kernel) rfl
theorem wi_182_9 : ri (rt_P sc fm) 182 9 (.istore_n 3) (10) := ri_of (by decide +kernel) rfl
theorem wm_183 : rx_ml (rt_P sc fm) 183 = 3 := (by decide +kernel : rt_ml 183 = 3)
theorem wr_182 : rx_rt (rt_P sc fm) 182 = (some FieldType.int) := (by decide +kernel : rt_rt 182 = (some FieldType.int))
/-- MarkHouse$Effects.givenAt(II)I -/
def d_182 (n : Nat) (a1 : Int32) (a2 : Int32) (c : cS) : Option (Int32) :=
  if ib a1 2242 then
  lt ((c.1 142 (ix a1)) : Int32) (fun v3 =>
  Option.bind (whl (R := (Unit) ⊕ (Int32)) (fun s6 : Int32 × Int32 =>
    if ib a1 2242 then
    if (c.1 144 (ix a1)) ≤ s6.2 then
      some (.inr (.inl ()))
    else
      Option.bind (d_183 n s6.1 a2 c) (fun v8 =>
      if v8 < 0 then
        if ib s6.1 4096 then
        lt ((c.1 138 (ix s6.1)) : Int32) (fun v12 =>
        lt (s6.2 + 1 : Int32) (fun v15 =>
        some (.inl (v12, v15))))
        else none
      else
        some (.inr (.inr v8)))
    else none) n (v3, 0))
  (Sum.elim (fun x17 : Unit =>
    some (-1))
  (fun x18 : Int32 =>
    some x18)))
  else none
theorem sp_182 {F Lo n : Nat} {a1 : Int32} {a2 : Int32} {c y : cS} {w : cW} {K : Int32 → Prop} {Q : ((Option Value) ⊕ String) → List va_E → Prop} (hw : rOK fm w) (hF : 2 ≤ F) (hLo : 43 ≤ Lo)  (h : wp (d_182 n a1 a2 c) K) (hQ : ∀ r, K r → Q (.inl (some (.int r))) (hq true c y w)) : rs (rt_P sc fm) 182 F Lo 0 [(0, .ref 146), (1, .int a1), (2, .int a2)] [] (hq true c y w) Q := by
  unfold d_182 at h
  obtain ⟨lv, elv⟩ : ∃ lv : rx_L, lv = [(0, .ref 146), (1, .int a1), (2, .int a2)] := ⟨_, rfl⟩
  rw [← elv]
  have l0 : rx_ld lv 0 = some (.ref 146) := by rw [elv]; rfl
  have l1 : rx_ld lv 1 = some (.int a1) := by rw [elv]; rfl
  have l2 : rx_ld lv 2 = some (.int a2) := by rw [elv]; rfl
  refine rs_aldn wi_182_0 l0 ?_
  refine dq_gr wi_182_1 wf_182_29 tf_146_2 ?_
  refine dq_gr wi_182_4 wf_182_59 tf_133_8 ?_
  refine rs_ildn wi_182_7 l1 ?_
  obtain ⟨g1, h⟩ := wp_gd h
  refine dq_iald wi_182_8 t_142 g1 ?_
  obtain ⟨v3, e4, h⟩ := wp_lt h
  refine rs_topi e4 ?_
  refine dl_istn wi_182_9 rfl (fun lv l3 t2 => ?_)
  have l0 := t2 _ _ (by decide) (Or.inl rfl) l0
  have l1 := t2 _ _ (by decide) (Or.inl rfl) l1
  have l2 := t2 _ _ (by decide) (Or.inl rfl) l2
  refine rs_pure wi_182_10 rfl ?_
  refine rs_topi (v := 0) (by decide) ?_
  refine dl_ist wi_182_11 rfl (fun lv l4 t5 => ?_)
  have l0 := t5 _ _ (by decide) (Or.inl rfl) l0
  have l1 := t5 _ _ (by decide) (Or.inl rfl) l1
  have l2 := t5 _ _ (by decide) (Or.inl rfl) l2
  have l3 := t5 _ _ (by decide) (Or.inl rfl) l3
  refine whl_ex (A := fun s6 : Int32 × Int32 => ∀ lv, rx_ld lv 0 = some (.ref 146) → rx_ld lv 1 = some (.int a1) → rx_ld lv 2 = some (.int a2) → rx_ld lv 3 = some (.int s6.1) → rx_ld lv 4 = some (.int s6.2) → rs (rt_P sc fm) 182 F Lo 13 lv [] (hq true c y w) Q) (B := (Sum.elim (fun x17 : Unit => ∀ lv, rs (rt_P sc fm) 182 F Lo 59 lv [] (hq true c y w) Q) (fun x18 : Int32 => ∀ lv, rx_ld lv 5 = some (.int x18) → rs (rt_P sc fm) 182 F Lo 40 lv [] (hq true c y w) Q))) ?_ ?_ _ _ (wp_bind h) _ l0 l1 l2 l3 l4
  · intro s6 h lv l0 l1 l2 l3 l4
    refine rs_ild wi_182_13 l4 ?_
    refine rs_aldn wi_182_15 l0 ?_
    refine dq_gr wi_182_16 wf_182_29 tf_146_2 ?_
    refine dq_gr wi_182_19 wf_182_64 tf_133_10 ?_
    refine rs_ildn wi_182_22 l1 ?_
    obtain ⟨g7, h⟩ := wp_gd h
    refine dq_iald wi_182_23 t_144 g7 ?_
    refine rs_icge (tg := 59) wi_182_24 ⟨by decide, by decide⟩ (fun q => ?_) (fun q => ?_)
    ·
      have h := wp_pos h q
      exact h _
    ·
      have h := wp_neg h q
      refine rs_aldn wi_182_27 l0 ?_
      refine rs_ildn wi_182_28 l3 ?_
      refine rs_ildn wi_182_29 l2 ?_
      refine rs_V wi_182_30 wc_182_133 rfl (dq_isa tf_146_0 wa_4_183) (Nat.le_trans (by decide) hF) (ml_le wm_183 (Nat.le_trans (by decide) hLo)) rfl (sp_183 hw (Nat.le_trans (by decide : 1 ≤ 2 - 1) (Nat.sub_le_sub_right hF 1)) (ml_sub wm_183 (Nat.le_trans (by decide : 21 ≤ 43 - 22) (Nat.sub_le_sub_right hLo 22))) (wp_bind h) (fun v8 h => rs_back1 ?_))
      refine dl_ist wi_182_33 rfl (fun lv l5 t9 => ?_)
      have l0 := t9 _ _ (by decide) (Or.inl rfl) l0
      have l1 := t9 _ _ (by decide) (Or.inl rfl) l1
      have l2 := t9 _ _ (by decide) (Or.inl rfl) l2
      have l3 := t9 _ _ (by decide) (Or.inl rfl) l3
      have l4 := t9 _ _ (by decide) (Or.inl rfl) l4
      refine rs_ild wi_182_35 l5 ?_
      refine rs_iflt (tg := 43) wi_182_37 ⟨by decide, by decide⟩ (fun q => ?_) (fun q => ?_)
      ·
        have h := wp_pos h q
        refine rs_aldn wi_182_43 l0 ?_
        refine dq_gr wi_182_44 wf_182_29 tf_146_2 ?_
        refine dq_gr wi_182_47 wf_182_78 tf_133_4 ?_
        refine rs_ildn wi_182_50 l3 ?_
        obtain ⟨g10, h⟩ := wp_gd h
        refine dq_iald wi_182_51 t_138 g10 ?_
        obtain ⟨v12, e13, h⟩ := wp_lt h
        refine rs_topi e13 ?_
        refine dl_istn wi_182_52 rfl (fun lv l3 t11 => ?_)
        have l0 := t11 _ _ (by decide) (Or.inl rfl) l0
        have l1 := t11 _ _ (by decide) (Or.inl rfl) l1
        have l2 := t11 _ _ (by decide) (Or.inl rfl) l2
        have l4 := t11 _ _ (by decide) (Or.inl rfl) l4
        obtain ⟨v15, e16, h⟩ := wp_lt h
        refine dl_inc wi_182_53 l4 rfl e16 (fun lv l4 t14 => ?_)
        have l0 := t14 _ _ (by decide) (Or.inl rfl) l0
        have l1 := t14 _ _ (by decide) (Or.inl rfl) l1
        have l2 := t14 _ _ (by decide) (Or.inl rfl) l2
        have l3 := t14 _ _ (by decide) (Or.inl rfl) l3
        refine rs_goto (tg := 13) wi_182_56 ⟨by decide, by decide⟩ ?_
        exact h _ l0 l1 l2 l3 l4
      ·
        have h := wp_neg h q
        exact h _ l5
  ·
    refine sum_all ?_ ?_
    ·
      intro x17 h lv
      have h := wp_inl h
      refine rs_pure wi_182_59 rfl ?_
      refine rs_topi (v := (-1)) (by decide) ?_
      exact rs_iret wi_182_60 wr_182 rfl (hQ (-1) h)
    ·
      intro x18 h lv l5
      have h := wp_inr h
      refine rs_ild wi_182_40 l5 ?_
      exact rs_iret wi_182_42 wr_182 rfl (hQ x18 h)
theorem tf_146_1 : fo true 146 4 1 (.ref 114) := ⟨_, rfl, rfl, by decide, by decide⟩
theorem wc_184_142 : rx_ct (rt_P sc fm) 184 142 = some (0, 22, 1) := (by decide +kernel : rt_ct 184 142 = some (0, 22, 1))
theorem wc_184_150 : rx_ct (rt_P sc fm) 184 150 = some (0, 160, 2) := (by decide +kernel : rt_ct 184 150 = some (0, 160, 2))
theorem wf_184_139 : rx_ft (rt_P sc fm) 184 139 = some (9, 9) := (by decide +kernel : rt_ft 184 139 = some (9, 9))
theorem wf_184_147 : rx_ft (rt_P sc fm) 184 147 = some (2, 1) := (by decide +kernel : rt_ft 184 147 = some (2, 1))
theorem wf_184_154 : rx_ft (rt_P sc fm) 184 154 = some (2, 2) := (by decide +kernel : rt_ft 184 154 = some (2, 2))
theorem wf_184_21 : rx_ft (rt_P sc fm) 184 21 = some (4, 0) := (by decide +kernel : rt_ft 184 21 = some (4, 0))
theorem wf_184_25 : rx_ft (rt_P sc fm) 184 25 = some (4, 1) := (by decide +kernel : rt_ft 184 25 = some (4, 1))
theorem wi_184_0 : ri (rt_P sc fm) 184 0 (.iload_n 1) (1) := ri_of (by decide +kernel) rfl
theorem wi_184_1 : ri (rt_P sc fm) 184 1 (.bipush 100) (3) := ri_of (by decide +kernel) rfl
theorem wi_184_102 : ri (rt_P sc fm) 184 102 (.iload 4) (104) := ri_of (by decide +kernel) rfl
theorem wi_184_104 : ri (rt_P sc fm) 184 104 (.iaload) (105) := ri_of (by decide +kernel) rfl
theorem wi_184_105 : ri (rt_P sc fm) 184 105 (.if_icmp .eq 5) (108) := ri_of (by decide +kernel) rfl
theorem wi_184_108 : ri (rt_P sc fm) 184 108 (.iconst (-1)) (109) := ri_of (by decide +kernel) rfl
theorem wi_184_109 : ri (rt_P sc fm) 184 109 (.ireturn) (110) := ri_of (by decide +kernel) rfl
theorem wi_184_110 : ri (rt_P sc fm) 184 110 (.iload 5) (112) := ri_of (by decide +kernel) rfl
theorem wi_184_112 : ri (rt_P sc fm) 184 112 (.iload_n 2) (113) := ri_of (by decide +kernel) rfl
theorem wi_184_113 : ri (rt_P sc fm) 184 113 (.bipush 10) (115) := ri_of (by decide +kernel) rfl
theorem wi_184_115 : ri (rt_P sc fm) 184 115 (.irem) (116) := ri_of (by decide +kernel) rfl
theorem wi_184_116 : ri (rt_P sc fm) 184 116 (.iadd) (117) := ri_of (by decide +kernel) rfl
theorem wi_184_117 : ri (rt_P sc fm) 184 117 (.ireturn) (118) := ri_of (by decide +kernel) rfl
theorem wi_184_12 : ri (rt_P sc fm) 184 12 (.iload_n 1) (13) := ri_of (by decide +kernel) rfl
theorem wi_184_13 : ri (rt_P sc fm) 184 13 (.bipush 100) (15) := ri_of (by decide +kernel) rfl
theorem wi_184_15 : ri (rt_P sc fm) 184 15 (.idiv) (16) := ri_of (by decide +kernel) rfl
theorem wi_184_16 : ri (rt_P sc fm) 184 16 (.iaload) (17) := ri_of (by decide +kernel) rfl
theorem wi_184_17 : ri (rt_P sc fm) 184 17 (.istore_n 3) (18) := ri_of (by decide +kernel) rfl
theorem wi_184_18 : ri (rt_P sc fm) 184 18 (.iload_n 3) (19) := ri_of (by decide +kernel) rfl
theorem wi_184_19 : ri (rt_P sc fm) 184 19 (.ifCond .lt 13) (22) := ri_of (by decide +kernel) rfl
theorem wi_184_22 : ri (rt_P sc fm) 184 22 (.iload_n 2) (23) := ri_of (by decide +kernel) rfl
theorem wi_184_23 : ri (rt_P sc fm) 184 23 (.ifCond .eq 11) (26) := ri_of (by decide +kernel) rfl
theorem wi_184_26 : ri (rt_P sc fm) 184 26 (.iload_n 2) (27) := ri_of (by decide +kernel) rfl
theorem wi_184_27 : ri (rt_P sc fm) 184 27 (.bipush 20) (29) := ri_of (by decide +kernel) rfl
theorem wi_184_29 : ri (rt_P sc fm) 184 29 (.if_icmp .ge 5) (32) := ri_of (by decide +kernel) rfl
theorem wi_184_3 : ri (rt_P sc fm) 184 3 (.irem) (4) := ri_of (by decide +kernel) rfl
theorem wi_184_32 : ri (rt_P sc fm) 184 32 (.iconst (-1)) (33) := ri_of (by decide +kernel) rfl
theorem wi_184_33 : ri (rt_P sc fm) 184 33 (.ireturn) (34) := ri_of (by decide +kernel) rfl
theorem wi_184_34 : ri (rt_P sc fm) 184 34 (.iload_n 2) (35) := ri_of (by decide +kernel) rfl
theorem wi_184_35 : ri (rt_P sc fm) 184 35 (.ifCond .ne 8) (38) := ri_of (by decide +kernel) rfl
theorem wi_184_38 : ri (rt_P sc fm) 184 38 (.bipush 100) (40) := ri_of (by decide +kernel) rfl
theorem wi_184_4 : ri (rt_P sc fm) 184 4 (.istore_n 2) (5) := ri_of (by decide +kernel) rfl
theorem wi_184_40 : ri (rt_P sc fm) 184 40 (.iload_n 3) (41) := ri_of (by decide +kernel) rfl
theorem wi_184_41 : ri (rt_P sc fm) 184 41 (.imul) (42) := ri_of (by decide +kernel) rfl
theorem wi_184_42 : ri (rt_P sc fm) 184 42 (.ireturn) (43) := ri_of (by decide +kernel) rfl
theorem wi_184_43 : ri (rt_P sc fm) 184 43 (.aload_n 0) (44) := ri_of (by decide +kernel) rfl
theorem wi_184_44 : ri (rt_P sc fm) 184 44 (.getfield 25) (47) := ri_of (by decide +kernel) rfl
theorem wi_184_47 : ri (rt_P sc fm) 184 47 (.iload_n 1) (48) := ri_of (by decide +kernel) rfl
theorem wi_184_48 : ri (rt_P sc fm) 184 48 (.invokevirtual 142) (51) := ri_of (by decide +kernel) rfl
theorem wi_184_5 : ri (rt_P sc fm) 184 5 (.aload_n 0) (6) := ri_of (by decide +kernel) rfl
theorem wi_184_51 : ri (rt_P sc fm) 184 51 (.istore 4) (53) := ri_of (by decide +kernel) rfl
theorem wi_184_53 : ri (rt_P sc fm) 184 53 (.aload_n 0) (54) := ri_of (by decide +kernel) rfl
theorem wi_184_54 : ri (rt_P sc fm) 184 54 (.getfield 25) (57) := ri_of (by decide +kernel) rfl
theorem wi_184_57 : ri (rt_P sc fm) 184 57 (.iload_n 3) (58) := ri_of (by decide +kernel) rfl
theorem wi_184_58 : ri (rt_P sc fm) 184 58 (.aload_n 0) (59) := ri_of (by decide +kernel) rfl
theorem wi_184_59 : ri (rt_P sc fm) 184 59 (.getfield 25) (62) := ri_of (by decide +kernel) rfl
theorem wi_184_6 : ri (rt_P sc fm) 184 6 (.getfield 21) (9) := ri_of (by decide +kernel) rfl
theorem wi_184_62 : ri (rt_P sc fm) 184 62 (.getfield 147) (65) := ri_of (by decide +kernel) rfl
theorem wi_184_65 : ri (rt_P sc fm) 184 65 (.iload 4) (67) := ri_of (by decide +kernel) rfl
theorem wi_184_67 : ri (rt_P sc fm) 184 67 (.laload) (68) := ri_of (by decide +kernel) rfl
theorem wi_184_68 : ri (rt_P sc fm) 184 68 (.invokevirtual 150) (71) := ri_of (by decide +kernel) rfl
theorem wi_184_71 : ri (rt_P sc fm) 184 71 (.istore 5) (73) := ri_of (by decide +kernel) rfl
theorem wi_184_73 : ri (rt_P sc fm) 184 73 (.iload 5) (75) := ri_of (by decide +kernel) rfl
theorem wi_184_75 : ri (rt_P sc fm) 184 75 (.ifCond .lt 33) (78) := ri_of (by decide +kernel) rfl
theorem wi_184_78 : ri (rt_P sc fm) 184 78 (.aload_n 0) (79) := ri_of (by decide +kernel) rfl
theorem wi_184_79 : ri (rt_P sc fm) 184 79 (.getfield 25) (82) := ri_of (by decide +kernel) rfl
theorem wi_184_82 : ri (rt_P sc fm) 184 82 (.getfield 154) (85) := ri_of (by decide +kernel) rfl
theorem wi_184_85 : ri (rt_P sc fm) 184 85 (.aload_n 0) (86) := ri_of (by decide +kernel) rfl
theorem wi_184_86 : ri (rt_P sc fm) 184 86 (.getfield 25) (89) := ri_of (by decide +kernel) rfl
theorem wi_184_89 : ri (rt_P sc fm) 184 89 (.iload 5) (91) := ri_of (by decide +kernel) rfl
theorem wi_184_9 : ri (rt_P sc fm) 184 9 (.getfield 139) (12) := ri_of (by decide +kernel) rfl
theorem wi_184_91 : ri (rt_P sc fm) 184 91 (.invokevirtual 142) (94) := ri_of (by decide +kernel) rfl
theorem wi_184_94 : ri (rt_P sc fm) 184 94 (.iaload) (95) := ri_of (by decide +kernel) rfl
theorem wi_184_95 : ri (rt_P sc fm) 184 95 (.aload_n 0) (96) := ri_of (by decide +kernel) rfl
theorem wi_184_96 : ri (rt_P sc fm) 184 96 (.getfield 25) (99) := ri_of (by decide +kernel) rfl
theorem wi_184_99 : ri (rt_P sc fm) 184 99 (.getfield 154) (102) := ri_of (by decide +kernel) rfl
theorem wr_184 : rx_rt (rt_P sc fm) 184 = (some FieldType.int) := (by decide +kernel : rt_rt 184 = (some FieldType.int))
/-- MarkHouse$Effects.above(I)I -/
def d_184 (n : Nat) (a1 : Int32) (c : cS) : Option (Int32) :=
  lt ((a1 - a1 / 100 * 100) : Int32) (fun v2 =>
  if ib (a1 / 100) 12 then
  lt ((c.1 13 (ix (a1 / 100))) : Int32) (fun v6 =>
  jn (fun p8 : Unit =>
    some (-1))
  (fun j32 =>
  if v6 < 0 then
    j32 ()
  else
    jn (fun p9 : Unit =>
      if v2 = 0 then
        some (100 * v6)
      else
        Option.bind (d_22 n a1) (fun v10 =>
        if ib v10 96 then
        Option.bind (d_160 n v6 (c.2 115 (ix v10)) c) (fun v13 =>
        jn (fun p15 : Unit =>
          some (-1))
        (fun j108 =>
        if v13 < 0 then
          j108 ()
        else
          Option.bind (d_22 n v13) (fun v16 =>
          if ib v16 96 then
          if ib v10 96 then
          if (c.1 116 (ix v16)) = (c.1 116 (ix v10)) then
            some (v13 + (v2 - v2 / 10 * 10))
          else
            j108 ()
          else none
          else none)))
        else none))
    (fun j34 =>
    if v2 = 0 then
      j34 ()
    else
      if 20 ≤ v2 then
        j34 ()
      else
        j32 ())))
  else none)
theorem sp_184 {F Lo n : Nat} {a1 : Int32} {c y : cS} {w : cW} {K : Int32 → Prop} {Q : ((Option Value) ⊕ String) → List va_E → Prop} (hw : rOK fm w) (hF : 2 ≤ F) (hLo : 50 ≤ Lo)  (h : wp (d_184 n a1 c) K) (hQ : ∀ r, K r → Q (.inl (some (.int r))) (hq true c y w)) : rs (rt_P sc fm) 184 F Lo 0 [(0, .ref 146), (1, .int a1)] [] (hq true c y w) Q := by
  unfold d_184 at h
  obtain ⟨lv, elv⟩ : ∃ lv : rx_L, lv = [(0, .ref 146), (1, .int a1)] := ⟨_, rfl⟩
  rw [← elv]
  have l0 : rx_ld lv 0 = some (.ref 146) := by rw [elv]; rfl
  have l1 : rx_ld lv 1 = some (.int a1) := by rw [elv]; rfl
  refine rs_ildn wi_184_0 l1 ?_
  refine rs_pure wi_184_1 rfl ?_
  refine rs_topi (v := 100) (by decide) ?_
  refine dl_irem wi_184_3 (by decide) ?_
  obtain ⟨v2, e3, h⟩ := wp_lt h
  refine rs_topi e3 ?_
  refine dl_istn wi_184_4 rfl (fun lv l2 t1 => ?_)
  have l0 := t1 _ _ (by decide) (Or.inl rfl) l0
  have l1 := t1 _ _ (by decide) (Or.inl rfl) l1
  refine rs_aldn wi_184_5 l0 ?_
  refine dq_gr wi_184_6 wf_184_21 tf_146_0 ?_
  refine dq_gr wi_184_9 wf_184_139 tf_7_9 ?_
  refine rs_ildn wi_184_12 l1 ?_
  refine rs_pure wi_184_13 rfl ?_
  refine rs_topi (v := 100) (by decide) ?_
  refine dl_idiv wi_184_15 (by decide) ?_
  obtain ⟨g4, h⟩ := wp_gd h
  refine dq_iald wi_184_16 t_13 g4 ?_
  obtain ⟨v6, e7, h⟩ := wp_lt h
  refine rs_topi e7 ?_
  refine dl_istn wi_184_17 rfl (fun lv l3 t5 => ?_)
  have l0 := t5 _ _ (by decide) (Or.inl rfl) l0
  have l1 := t5 _ _ (by decide) (Or.inl rfl) l1
  have l2 := t5 _ _ (by decide) (Or.inl rfl) l2
  refine rs_ildn wi_184_18 l3 ?_
  refine wp_jn (B := fun p8 : Unit => ∀ lv, rs (rt_P sc fm) 184 F Lo 32 lv [] (hq true c y w) Q) h (fun p8 h lv => ?_) (fun j32 hj32 h => ?_)
  ·
    refine rs_pure wi_184_32 rfl ?_
    refine rs_topi (v := (-1)) (by decide) ?_
    exact rs_iret wi_184_33 wr_184 rfl (hQ (-1) h)
  refine rs_iflt (tg := 32) wi_184_19 ⟨by decide, by decide⟩ (fun q => ?_) (fun q => ?_)
  ·
    have h := wp_pos h q
    exact hj32 _ h _
  ·
    have h := wp_neg h q
    refine rs_ildn wi_184_22 l2 ?_
    refine wp_jn (B := fun p9 : Unit => ∀ lv, rx_ld lv 0 = some (.ref 146) → rx_ld lv 1 = some (.int a1) → rx_ld lv 2 = some (.int v2) → rx_ld lv 3 = some (.int v6) → rs (rt_P sc fm) 184 F Lo 34 lv [] (hq true c y w) Q) h (fun p9 h lv l0 l1 l2 l3 => ?_) (fun j34 hj34 h => ?_)
    ·
      refine rs_ildn wi_184_34 l2 ?_
      refine rs_ifne (tg := 43) wi_184_35 ⟨by decide, by decide⟩ (fun q => ?_) (fun q => ?_)
      ·
        have h := wp_neg h q
        refine rs_aldn wi_184_43 l0 ?_
        refine dq_gr wi_184_44 wf_184_25 tf_146_1 ?_
        refine rs_ildn wi_184_47 l1 ?_
        refine rs_V wi_184_48 wc_184_142 rfl (dq_isa tf_114_0 wa_2_22) (Nat.le_trans (by decide) hF) (ml_le wm_22 (Nat.le_trans (by decide) hLo)) rfl (sp_22 (Nat.le_trans (by decide : 0 ≤ 2 - 1) (Nat.sub_le_sub_right hF 1)) (ml_sub wm_22 (Nat.le_trans (by decide : 0 ≤ 50 - 21) (Nat.sub_le_sub_right hLo 21))) (wp_bind h) (fun v10 h => rs_back1 ?_))
        refine dl_ist wi_184_51 rfl (fun lv l4 t11 => ?_)
        have l0 := t11 _ _ (by decide) (Or.inl rfl) l0
        have l2 := t11 _ _ (by decide) (Or.inl rfl) l2
        have l3 := t11 _ _ (by decide) (Or.inl rfl) l3
        refine rs_aldn wi_184_53 l0 ?_
        refine dq_gr wi_184_54 wf_184_25 tf_146_1 ?_
        refine rs_ildn wi_184_57 l3 ?_
        refine rs_aldn wi_184_58 l0 ?_
        refine dq_gr wi_184_59 wf_184_25 tf_146_1 ?_
        refine dq_gr wi_184_62 wf_184_147 tf_114_1 ?_
        refine rs_ild wi_184_65 l4 ?_
        obtain ⟨g12, h⟩ := wp_gd h
        refine dq_lald wi_184_67 t_115 g12 ?_
        refine rs_V wi_184_68 wc_184_150 rfl (dq_isa tf_114_0 wa_2_160) (Nat.le_trans (by decide) hF) (ml_le wm_160 (Nat.le_trans (by decide) hLo)) rfl (sp_160 hw (Nat.le_trans (by decide : 1 ≤ 2 - 1) (Nat.sub_le_sub_right hF 1)) (ml_sub wm_160 (Nat.le_trans (by decide : 24 ≤ 50 - 26) (Nat.sub_le_sub_right hLo 26))) (wp_bind h) (fun v13 h => rs_back1 ?_))
        refine dl_ist wi_184_71 rfl (fun lv l5 t14 => ?_)
        have l0 := t14 _ _ (by decide) (Or.inl rfl) l0
        have l2 := t14 _ _ (by decide) (Or.inl rfl) l2
        have l4 := t14 _ _ (by decide) (Or.inl rfl) l4
        refine rs_ild wi_184_73 l5 ?_
        refine wp_jn (B := fun p15 : Unit => ∀ lv, rs (rt_P sc fm) 184 F Lo 108 lv [] (hq true c y w) Q) h (fun p15 h lv => ?_) (fun j108 hj108 h => ?_)
        ·
          refine rs_pure wi_184_108 rfl ?_
          refine rs_topi (v := (-1)) (by decide) ?_
          exact rs_iret wi_184_109 wr_184 rfl (hQ (-1) h)
        refine rs_iflt (tg := 108) wi_184_75 ⟨by decide, by decide⟩ (fun q => ?_) (fun q => ?_)
        ·
          have h := wp_pos h q
          exact hj108 _ h _
        ·
          have h := wp_neg h q
          refine rs_aldn wi_184_78 l0 ?_
          refine dq_gr wi_184_79 wf_184_25 tf_146_1 ?_
          refine dq_gr wi_184_82 wf_184_154 tf_114_2 ?_
          refine rs_aldn wi_184_85 l0 ?_
          refine dq_gr wi_184_86 wf_184_25 tf_146_1 ?_
          refine rs_ild wi_184_89 l5 ?_
          refine rs_V wi_184_91 wc_184_142 rfl (dq_isa tf_114_0 wa_2_22) (Nat.le_trans (by decide) hF) (ml_le wm_22 (Nat.le_trans (by decide) hLo)) rfl (sp_22 (Nat.le_trans (by decide : 0 ≤ 2 - 1) (Nat.sub_le_sub_right hF 1)) (ml_sub wm_22 (Nat.le_trans (by decide : 0 ≤ 50 - 21) (Nat.sub_le_sub_right hLo 21))) (wp_bind h) (fun v16 h => rs_back1 ?_))
          obtain ⟨g17, h⟩ := wp_gd h
          refine dq_iald wi_184_94 t_116 g17 ?_
          refine rs_aldn wi_184_95 l0 ?_
          refine dq_gr wi_184_96 wf_184_25 tf_146_1 ?_
          refine dq_gr wi_184_99 wf_184_154 tf_114_2 ?_
          refine rs_ild wi_184_102 l4 ?_
          obtain ⟨g18, h⟩ := wp_gd h
          refine dq_iald wi_184_104 t_116 g18 ?_
          refine rs_iceq (tg := 110) wi_184_105 ⟨by decide, by decide⟩ (fun q => ?_) (fun q => ?_)
          ·
            have h := wp_pos h q
            refine rs_ild wi_184_110 l5 ?_
            refine rs_ildn wi_184_112 l2 ?_
            refine rs_pure wi_184_113 rfl ?_
            refine rs_topi (v := 10) (by decide) ?_
            refine dl_irem wi_184_115 (by decide) ?_
            refine rs_pure wi_184_116 rfl ?_
            exact rs_iret wi_184_117 wr_184 rfl (hQ (v13 + (v2 - v2 / 10 * 10)) h)
          ·
            have h := wp_neg h q
            exact hj108 _ h _
      ·
        have h := wp_pos h q
        refine rs_pure wi_184_38 rfl ?_
        refine rs_topi (v := 100) (by decide) ?_
        refine rs_ildn wi_184_40 l3 ?_
        refine rs_pure wi_184_41 rfl ?_
        exact rs_iret wi_184_42 wr_184 rfl (hQ (100 * v6) h)
    refine rs_ifeq (tg := 34) wi_184_23 ⟨by decide, by decide⟩ (fun q => ?_) (fun q => ?_)
    ·
      have h := wp_pos h q
      exact hj34 _ h _ l0 l1 l2 l3
    ·
      have h := wp_neg h q
      refine rs_ildn wi_184_26 l2 ?_
      refine rs_pure wi_184_27 rfl ?_
      refine rs_topi (v := 20) (by decide) ?_
      refine rs_icge (tg := 34) wi_184_29 ⟨by decide, by decide⟩ (fun q => ?_) (fun q => ?_)
      ·
        have h := wp_pos h q
        exact hj34 _ h _ l0 l1 l2 l3
      ·
        have h := wp_neg h q
        exact hj32 _ h _
theorem tf_146_3 : fo true 146 4 3 (.int 0) := ⟨_, rfl, rfl, by decide, by decide⟩
theorem tf_146_4 : fo true 146 4 4 (.int 0) := ⟨_, rfl, rfl, by decide, by decide⟩
theorem tf_146_5 : fo true 146 4 5 (.int 0) := ⟨_, rfl, rfl, by decide, by decide⟩
theorem wa_4_181 : rz_cn 4 (rx_yn (rt_P sc fm) 181).cls = true := (by decide +kernel : rz_cn 4 (rt_yn 181).cls = true)
theorem wa_4_182 : rz_cn 4 (rx_yn (rt_P sc fm) 182).cls = true := (by decide +kernel : rz_cn 4 (rt_yn 182).cls = true)
theorem wa_4_184 : rz_cn 4 (rx_yn (rt_P sc fm) 184).cls = true := (by decide +kernel : rz_cn 4 (rt_yn 184).cls = true)
theorem wc_180_115 : rx_ct (rt_P sc fm) 180 115 = some (0, 181, 2) := (by decide +kernel : rt_ct 180 115 = some (0, 181, 2))
theorem wc_180_123 : rx_ct (rt_P sc fm) 180 123 = some (0, 182, 2) := (by decide +kernel : rt_ct 180 123 = some (0, 182, 2))
theorem wc_180_126 : rx_ct (rt_P sc fm) 180 126 = some (0, 184, 1) := (by decide +kernel : rt_ct 180 126 = some (0, 184, 1))
theorem wcn_180_118 : rx_ct (rt_P sc fm) 180 118 = none := (by decide +kernel : rt_ct 180 118 = none)
theorem wf_180_100 : rx_ft (rt_P sc fm) 180 100 = some (4, 4) := (by decide +kernel : rt_ft 180 100 = some (4, 4))
theorem wf_180_103 : rx_ft (rt_P sc fm) 180 103 = some (4, 5) := (by decide +kernel : rt_ft 180 103 = some (4, 5))
theorem wf_180_106 : rx_ft (rt_P sc fm) 180 106 = some (9, 3) := (by decide +kernel : rt_ft 180 106 = some (9, 3))
theorem wf_180_110 : rx_ft (rt_P sc fm) 180 110 = some (6, 7) := (by decide +kernel : rt_ft 180 110 = some (6, 7))
theorem wf_180_21 : rx_ft (rt_P sc fm) 180 21 = some (4, 0) := (by decide +kernel : rt_ft 180 21 = some (4, 0))
theorem wf_180_97 : rx_ft (rt_P sc fm) 180 97 = some (4, 3) := (by decide +kernel : rt_ft 180 97 = some (4, 3))
theorem wi_180_0 : ri (rt_P sc fm) 180 0 (.aload_n 0) (1) := ri_of (by decide +kernel) rfl
theorem wi_180_1 : ri (rt_P sc fm) 180 1 (.iload_n 1) (2) := ri_of (by decide +kernel) rfl
theorem wi_180_10 : ri (rt_P sc fm) 180 10 (.aload_n 0) (11) := ri_of (by decide +kernel) rfl
theorem wi_180_102 : ri (rt_P sc fm) 180 102 (.iconst 1) (103) := ri_of (by decide +kernel) rfl
theorem wi_180_103 : ri (rt_P sc fm) 180 103 (.ireturn) (104) := ri_of (by decide +kernel) rfl
theorem wi_180_104 : ri (rt_P sc fm) 180 104 (.aload_n 0) (105) := ri_of (by decide +kernel) rfl
theorem wi_180_105 : ri (rt_P sc fm) 180 105 (.iload_n 3) (106) := ri_of (by decide +kernel) rfl
theorem wi_180_106 : ri (rt_P sc fm) 180 106 (.ifCond .eq 14) (109) := ri_of (by decide +kernel) rfl
theorem wi_180_109 : ri (rt_P sc fm) 180 109 (.aload_n 0) (110) := ri_of (by decide +kernel) rfl
theorem wi_180_11 : ri (rt_P sc fm) 180 11 (.iconst (-1)) (12) := ri_of (by decide +kernel) rfl
theorem wi_180_110 : ri (rt_P sc fm) 180 110 (.aload_n 0) (111) := ri_of (by decide +kernel) rfl
theorem wi_180_111 : ri (rt_P sc fm) 180 111 (.getfield 97) (114) := ri_of (by decide +kernel) rfl
theorem wi_180_114 : ri (rt_P sc fm) 180 114 (.invokevirtual 126) (117) := ri_of (by decide +kernel) rfl
theorem wi_180_117 : ri (rt_P sc fm) 180 117 (.goto 4) (120) := ri_of (by decide +kernel) rfl
theorem wi_180_12 : ri (rt_P sc fm) 180 12 (.putfield 103) (15) := ri_of (by decide +kernel) rfl
theorem wi_180_120 : ri (rt_P sc fm) 180 120 (.iconst (-1)) (121) := ri_of (by decide +kernel) rfl
theorem wi_180_121 : ri (rt_P sc fm) 180 121 (.putfield 97) (124) := ri_of (by decide +kernel) rfl
theorem wi_180_124 : ri (rt_P sc fm) 180 124 (.aload_n 0) (125) := ri_of (by decide +kernel) rfl
theorem wi_180_125 : ri (rt_P sc fm) 180 125 (.dup) (126) := ri_of (by decide +kernel) rfl
theorem wi_180_126 : ri (rt_P sc fm) 180 126 (.getfield 100) (129) := ri_of (by decide +kernel) rfl
theorem wi_180_129 : ri (rt_P sc fm) 180 129 (.iconst 1) (130) := ri_of (by decide +kernel) rfl
theorem wi_180_130 : ri (rt_P sc fm) 180 130 (.iadd) (131) := ri_of (by decide +kernel) rfl
theorem wi_180_131 : ri (rt_P sc fm) 180 131 (.putfield 100) (134) := ri_of (by decide +kernel) rfl
theorem wi_180_134 : ri (rt_P sc fm) 180 134 (.iinc 4 1) (137) := ri_of (by decide +kernel) rfl
theorem wi_180_137 : ri (rt_P sc fm) 180 137 (.goto (-92)) (140) := ri_of (by decide +kernel) rfl
theorem wi_180_140 : ri (rt_P sc fm) 180 140 (.iconst 0) (141) := ri_of (by decide +kernel) rfl
theorem wi_180_141 : ri (rt_P sc fm) 180 141 (.ireturn) (142) := ri_of (by decide +kernel) rfl
theorem wi_180_15 : ri (rt_P sc fm) 180 15 (.iload_n 2) (16) := ri_of (by decide +kernel) rfl
theorem wi_180_16 : ri (rt_P sc fm) 180 16 (.bipush 100) (18) := ri_of (by decide +kernel) rfl
theorem wi_180_18 : ri (rt_P sc fm) 180 18 (.if_icmp .ge 18) (21) := ri_of (by decide +kernel) rfl
theorem wi_180_2 : ri (rt_P sc fm) 180 2 (.putfield 97) (5) := ri_of (by decide +kernel) rfl
theorem wi_180_21 : ri (rt_P sc fm) 180 21 (.aload_n 0) (22) := ri_of (by decide +kernel) rfl
theorem wi_180_22 : ri (rt_P sc fm) 180 22 (.getfield 21) (25) := ri_of (by decide +kernel) rfl
theorem wi_180_25 : ri (rt_P sc fm) 180 25 (.getfield 106) (28) := ri_of (by decide +kernel) rfl
theorem wi_180_28 : ri (rt_P sc fm) 180 28 (.iload_n 2) (29) := ri_of (by decide +kernel) rfl
theorem wi_180_29 : ri (rt_P sc fm) 180 29 (.aaload) (30) := ri_of (by decide +kernel) rfl
theorem wi_180_30 : ri (rt_P sc fm) 180 30 (.getfield 110) (33) := ri_of (by decide +kernel) rfl
theorem wi_180_33 : ri (rt_P sc fm) 180 33 (.ifCond .eq 7) (36) := ri_of (by decide +kernel) rfl
theorem wi_180_36 : ri (rt_P sc fm) 180 36 (.iconst 1) (37) := ri_of (by decide +kernel) rfl
theorem wi_180_37 : ri (rt_P sc fm) 180 37 (.goto 4) (40) := ri_of (by decide +kernel) rfl
theorem wi_180_40 : ri (rt_P sc fm) 180 40 (.iconst 0) (41) := ri_of (by decide +kernel) rfl
theorem wi_180_41 : ri (rt_P sc fm) 180 41 (.istore_n 3) (42) := ri_of (by decide +kernel) rfl
theorem wi_180_42 : ri (rt_P sc fm) 180 42 (.iconst 0) (43) := ri_of (by decide +kernel) rfl
theorem wi_180_43 : ri (rt_P sc fm) 180 43 (.istore 4) (45) := ri_of (by decide +kernel) rfl
theorem wi_180_45 : ri (rt_P sc fm) 180 45 (.iload 4) (47) := ri_of (by decide +kernel) rfl
theorem wi_180_47 : ri (rt_P sc fm) 180 47 (.bipush 12) (49) := ri_of (by decide +kernel) rfl
theorem wi_180_49 : ri (rt_P sc fm) 180 49 (.if_icmp .gt 91) (52) := ri_of (by decide +kernel) rfl
theorem wi_180_5 : ri (rt_P sc fm) 180 5 (.aload_n 0) (6) := ri_of (by decide +kernel) rfl
theorem wi_180_52 : ri (rt_P sc fm) 180 52 (.aload_n 0) (53) := ri_of (by decide +kernel) rfl
theorem wi_180_53 : ri (rt_P sc fm) 180 53 (.getfield 97) (56) := ri_of (by decide +kernel) rfl
theorem wi_180_56 : ri (rt_P sc fm) 180 56 (.ifCond .lt 84) (59) := ri_of (by decide +kernel) rfl
theorem wi_180_59 : ri (rt_P sc fm) 180 59 (.aload_n 0) (60) := ri_of (by decide +kernel) rfl
theorem wi_180_6 : ri (rt_P sc fm) 180 6 (.iconst 0) (7) := ri_of (by decide +kernel) rfl
theorem wi_180_60 : ri (rt_P sc fm) 180 60 (.aload_n 0) (61) := ri_of (by decide +kernel) rfl
theorem wi_180_61 : ri (rt_P sc fm) 180 61 (.getfield 97) (64) := ri_of (by decide +kernel) rfl
theorem wi_180_64 : ri (rt_P sc fm) 180 64 (.iload_n 2) (65) := ri_of (by decide +kernel) rfl
theorem wi_180_65 : ri (rt_P sc fm) 180 65 (.invokevirtual 115) (68) := ri_of (by decide +kernel) rfl
theorem wi_180_68 : ri (rt_P sc fm) 180 68 (.istore 5) (70) := ri_of (by decide +kernel) rfl
theorem wi_180_7 : ri (rt_P sc fm) 180 7 (.putfield 100) (10) := ri_of (by decide +kernel) rfl
theorem wi_180_70 : ri (rt_P sc fm) 180 70 (.iload 5) (72) := ri_of (by decide +kernel) rfl
theorem wi_180_72 : ri (rt_P sc fm) 180 72 (.ifCond .eq 10) (75) := ri_of (by decide +kernel) rfl
theorem wi_180_75 : ri (rt_P sc fm) 180 75 (.iload 5) (77) := ri_of (by decide +kernel) rfl
theorem wi_180_77 : ri (rt_P sc fm) 180 77 (.iconst 0) (78) := ri_of (by decide +kernel) rfl
theorem wi_180_78 : ri (rt_P sc fm) 180 78 (.invokestatic 118) (81) := ri_of (by decide +kernel) rfl
theorem wi_180_81 : ri (rt_P sc fm) 180 81 (.ireturn) (82) := ri_of (by decide +kernel) rfl
theorem wi_180_82 : ri (rt_P sc fm) 180 82 (.aload_n 0) (83) := ri_of (by decide +kernel) rfl
theorem wi_180_83 : ri (rt_P sc fm) 180 83 (.aload_n 0) (84) := ri_of (by decide +kernel) rfl
theorem wi_180_84 : ri (rt_P sc fm) 180 84 (.aload_n 0) (85) := ri_of (by decide +kernel) rfl
theorem wi_180_85 : ri (rt_P sc fm) 180 85 (.getfield 97) (88) := ri_of (by decide +kernel) rfl
theorem wi_180_88 : ri (rt_P sc fm) 180 88 (.iload_n 2) (89) := ri_of (by decide +kernel) rfl
theorem wi_180_89 : ri (rt_P sc fm) 180 89 (.invokevirtual 123) (92) := ri_of (by decide +kernel) rfl
theorem wi_180_92 : ri (rt_P sc fm) 180 92 (.putfield 103) (95) := ri_of (by decide +kernel) rfl
theorem wi_180_95 : ri (rt_P sc fm) 180 95 (.aload_n 0) (96) := ri_of (by decide +kernel) rfl
theorem wi_180_96 : ri (rt_P sc fm) 180 96 (.getfield 103) (99) := ri_of (by decide +kernel) rfl
theorem wi_180_99 : ri (rt_P sc fm) 180 99 (.ifCond .lt 5) (102) := ri_of (by decide +kernel) rfl
theorem wm_181 : rx_ml (rt_P sc fm) 181 = 7 := (by decide +kernel : rt_ml 181 = 7)
theorem wm_182 : rx_ml (rt_P sc fm) 182 = 6 := (by decide +kernel : rt_ml 182 = 6)
theorem wm_184 : rx_ml (rt_P sc fm) 184 = 6 := (by decide +kernel : rt_ml 184 = 6)
theorem wp_180_100 : rx_pt (rt_P sc fm) 180 100 = some (4, 4, .int) := (by decide +kernel : rt_pt 180 100 = some (4, 4, .int))
theorem wp_180_103 : rx_pt (rt_P sc fm) 180 103 = some (4, 5, .int) := (by decide +kernel : rt_pt 180 103 = some (4, 5, .int))
theorem wp_180_97 : rx_pt (rt_P sc fm) 180 97 = some (4, 3, .int) := (by decide +kernel : rt_pt 180 97 = some (4, 3, .int))
theorem wq8_180_118 : rx_qt (rt_P sc fm) 180 118 = some 8 := (by decide +kernel : rt_qt 180 118 = some 8)
theorem wr_180 : rx_rt (rt_P sc fm) 180 = (some FieldType.int) := (by decide +kernel : rt_rt 180 = (some FieldType.int))
/-- MarkHouse$Effects.seek(II)I -/
def d_180 (n : Nat) (a1 : Int32) (a2 : Int32) (c : cS) : Option (Int32 × cS) :=
  lt (pI c 146 3 a1) (fun c1 =>
  lt (pI c1 146 4 0) (fun c3 =>
  lt (pI c3 146 5 (-1)) (fun c5 =>
  jn (fun p7 : Int32 =>
    Option.bind (whl (R := (cS) ⊕ (Int32 × cS) ⊕ (cS)) (fun s10 : Int32 × cS =>
      if 12 < s10.1 then
        some (.inr (.inl s10.2))
      else
        if (s10.2.1 146 3) < 0 then
          some (.inr (.inl s10.2))
        else
          Option.bind (d_181 n (s10.2.1 146 3) a2 s10.2) (fun v11 =>
          if v11 = 0 then
            Option.bind (d_182 n (s10.2.1 146 3) a2 s10.2) (fun v13 =>
            lt (pI s10.2 146 5 v13) (fun c14 =>
            if (c14.1 146 5) < 0 then
              jn (fun p16 : Int32 =>
                lt (pI c14 146 3 p16) (fun c17 =>
                lt (pI c17 146 4 ((c17.1 146 4) + 1)) (fun c19 =>
                lt (s10.1 + 1 : Int32) (fun v22 =>
                some (.inl (v22, c19))))))
              (fun j121 =>
              if p7 = 0 then
                j121 (-1)
              else
                Option.bind (d_184 n (c14.1 146 3) c14) (fun v24 =>
                j121 v24))
            else
              some (.inr (.inr (.inr c14)))))
          else
            some (.inr (.inr (.inl (v11, s10.2)))))) n (0, c5))
    (Sum.elim (fun x25 : cS =>
      some (0, x25))
    (Sum.elim (fun x26 : Int32 × cS =>
      some ((if x26.1 < 0 then 0 else x26.1), x26.2))
    (fun x27 : cS =>
      some (1, x27)))))
  (fun j41 =>
  jn (fun p28 : Unit =>
    j41 1)
  (fun j36 =>
  if 100 ≤ a2 then
    j36 ()
  else
    if ib a2 12 then
    if (c5.1 (kA (ix a2)) 7) = 0 then
      j41 0
    else
      j36 ()
    else none)))))
theorem sp_180 {F Lo n : Nat} {a1 : Int32} {a2 : Int32} {c y : cS} {w : cW} {K : Int32 × cS → Prop} {Q : ((Option Value) ⊕ String) → List va_E → Prop} (hw : rOK fm w) (hF : 3 ≤ F) (hLo : 75 ≤ Lo)  (h : wp (d_180 n a1 a2 c) K) (hQ : ∀ r, K r → Q (.inl (some (.int r.1))) (hq true r.2 y w)) : rs (rt_P sc fm) 180 F Lo 0 [(0, .ref 146), (1, .int a1), (2, .int a2)] [] (hq true c y w) Q := by
  unfold d_180 at h
  obtain ⟨lv, elv⟩ : ∃ lv : rx_L, lv = [(0, .ref 146), (1, .int a1), (2, .int a2)] := ⟨_, rfl⟩
  rw [← elv]
  have l0 : rx_ld lv 0 = some (.ref 146) := by rw [elv]; rfl
  have l1 : rx_ld lv 1 = some (.int a1) := by rw [elv]; rfl
  have l2 : rx_ld lv 2 = some (.int a2) := by rw [elv]; rfl
  refine rs_aldn wi_180_0 l0 ?_
  refine rs_ildn wi_180_1 l1 ?_
  obtain ⟨c1, e2, h⟩ := wp_lt h
  refine dq_pi wi_180_2 wp_180_97 tf_146_3 rfl rfl e2 ?_
  refine rs_aldn wi_180_5 l0 ?_
  refine rs_pure wi_180_6 rfl ?_
  refine rs_topi (v := 0) (by decide) ?_
  obtain ⟨c3, e4, h⟩ := wp_lt h
  refine dq_pi wi_180_7 wp_180_100 tf_146_4 rfl rfl e4 ?_
  refine rs_aldn wi_180_10 l0 ?_
  refine rs_pure wi_180_11 rfl ?_
  refine rs_topi (v := (-1)) (by decide) ?_
  obtain ⟨c5, e6, h⟩ := wp_lt h
  refine dq_pi wi_180_12 wp_180_103 tf_146_5 rfl rfl e6 ?_
  refine rs_ildn wi_180_15 l2 ?_
  refine rs_pure wi_180_16 rfl ?_
  refine rs_topi (v := 100) (by decide) ?_
  refine wp_jn (B := fun p7 : Int32 => ∀ lv, rx_ld lv 0 = some (.ref 146) → rx_ld lv 2 = some (.int a2) → rs (rt_P sc fm) 180 F Lo 41 lv [.int p7] (hq true c5 y w) Q) h (fun p7 h lv l0 l2 => ?_) (fun j41 hj41 h => ?_)
  ·
    refine dl_istn wi_180_41 rfl (fun lv l3 t8 => ?_)
    have l0 := t8 _ _ (by decide) (Or.inl rfl) l0
    have l2 := t8 _ _ (by decide) (Or.inl rfl) l2
    refine rs_pure wi_180_42 rfl ?_
    refine rs_topi (v := 0) (by decide) ?_
    refine dl_ist wi_180_43 rfl (fun lv l4 t9 => ?_)
    have l0 := t9 _ _ (by decide) (Or.inl rfl) l0
    have l2 := t9 _ _ (by decide) (Or.inl rfl) l2
    have l3 := t9 _ _ (by decide) (Or.inl rfl) l3
    refine whl_ex (A := fun s10 : Int32 × cS => ∀ lv, rx_ld lv 0 = some (.ref 146) → rx_ld lv 2 = some (.int a2) → rx_ld lv 3 = some (.int p7) → rx_ld lv 4 = some (.int s10.1) → rs (rt_P sc fm) 180 F Lo 45 lv [] (hq true s10.2 y w) Q) (B := (Sum.elim (fun x25 : cS => ∀ lv, rs (rt_P sc fm) 180 F Lo 140 lv [] (hq true x25 y w) Q) (Sum.elim (fun x26 : Int32 × cS => ∀ lv, rx_ld lv 5 = some (.int x26.1) → rs (rt_P sc fm) 180 F Lo 75 lv [] (hq true x26.2 y w) Q) (fun x27 : cS => ∀ lv, rs (rt_P sc fm) 180 F Lo 102 lv [] (hq true x27 y w) Q)))) ?_ ?_ _ _ (wp_bind h) _ l0 l2 l3 l4
    · intro s10 h lv l0 l2 l3 l4
      refine rs_ild wi_180_45 l4 ?_
      refine rs_pure wi_180_47 rfl ?_
      refine rs_topi (v := 12) (by decide) ?_
      refine rs_icgt (tg := 140) wi_180_49 ⟨by decide, by decide⟩ (fun q => ?_) (fun q => ?_)
      ·
        have h := wp_pos h q
        exact h _
      ·
        have h := wp_neg h q
        refine rs_aldn wi_180_52 l0 ?_
        refine dq_gi wi_180_53 wf_180_97 tf_146_3 ?_
        refine rs_iflt (tg := 140) wi_180_56 ⟨by decide, by decide⟩ (fun q => ?_) (fun q => ?_)
        ·
          have h := wp_pos h q
          exact h _
        ·
          have h := wp_neg h q
          refine rs_aldn wi_180_59 l0 ?_
          refine rs_aldn wi_180_60 l0 ?_
          refine dq_gi wi_180_61 wf_180_97 tf_146_3 ?_
          refine rs_ildn wi_180_64 l2 ?_
          refine rs_V wi_180_65 wc_180_115 rfl (dq_isa tf_146_0 wa_4_181) (Nat.le_trans (by decide) hF) (ml_le wm_181 (Nat.le_trans (by decide) hLo)) rfl (sp_181 hw (Nat.le_trans (by decide : 1 ≤ 3 - 1) (Nat.sub_le_sub_right hF 1)) (ml_sub wm_181 (Nat.le_trans (by decide : 21 ≤ 75 - 26) (Nat.sub_le_sub_right hLo 26))) (wp_bind h) (fun v11 h => rs_back1 ?_))
          refine dl_ist wi_180_68 rfl (fun lv l5 t12 => ?_)
          have l0 := t12 _ _ (by decide) (Or.inl rfl) l0
          have l2 := t12 _ _ (by decide) (Or.inl rfl) l2
          have l3 := t12 _ _ (by decide) (Or.inl rfl) l3
          have l4 := t12 _ _ (by decide) (Or.inl rfl) l4
          refine rs_ild wi_180_70 l5 ?_
          refine rs_ifeq (tg := 82) wi_180_72 ⟨by decide, by decide⟩ (fun q => ?_) (fun q => ?_)
          ·
            have h := wp_pos h q
            refine rs_aldn wi_180_82 l0 ?_
            refine rs_aldn wi_180_83 l0 ?_
            refine rs_aldn wi_180_84 l0 ?_
            refine dq_gi wi_180_85 wf_180_97 tf_146_3 ?_
            refine rs_ildn wi_180_88 l2 ?_
            refine rs_V wi_180_89 wc_180_123 rfl (dq_isa tf_146_0 wa_4_182) (Nat.le_trans (by decide) hF) (ml_le wm_182 (Nat.le_trans (by decide) hLo)) rfl (sp_182 hw (Nat.le_trans (by decide : 2 ≤ 3 - 1) (Nat.sub_le_sub_right hF 1)) (ml_sub wm_182 (Nat.le_trans (by decide : 43 ≤ 75 - 25) (Nat.sub_le_sub_right hLo 25))) (wp_bind h) (fun v13 h => rs_back1 ?_))
            obtain ⟨c14, e15, h⟩ := wp_lt h
            refine dq_pi wi_180_92 wp_180_103 tf_146_5 rfl rfl e15 ?_
            refine rs_aldn wi_180_95 l0 ?_
            refine dq_gi wi_180_96 wf_180_103 tf_146_5 ?_
            refine rs_iflt (tg := 104) wi_180_99 ⟨by decide, by decide⟩ (fun q => ?_) (fun q => ?_)
            ·
              have h := wp_pos h q
              refine rs_aldn wi_180_104 l0 ?_
              refine rs_ildn wi_180_105 l3 ?_
              refine wp_jn (B := fun p16 : Int32 => ∀ lv, rx_ld lv 0 = some (.ref 146) → rx_ld lv 2 = some (.int a2) → rx_ld lv 3 = some (.int p7) → rx_ld lv 4 = some (.int s10.1) → rs (rt_P sc fm) 180 F Lo 121 lv [.int p16, .ref 146] (hq true c14 y w) Q) h (fun p16 h lv l0 l2 l3 l4 => ?_) (fun j121 hj121 h => ?_)
              ·
                obtain ⟨c17, e18, h⟩ := wp_lt h
                refine dq_pi wi_180_121 wp_180_97 tf_146_3 rfl rfl e18 ?_
                refine rs_aldn wi_180_124 l0 ?_
                refine rs_pure wi_180_125 rfl ?_
                refine dq_gi wi_180_126 wf_180_100 tf_146_4 ?_
                refine rs_pure wi_180_129 rfl ?_
                refine rs_topi (v := 1) (by decide) ?_
                refine rs_pure wi_180_130 rfl ?_
                obtain ⟨c19, e20, h⟩ := wp_lt h
                refine dq_pi wi_180_131 wp_180_100 tf_146_4 rfl rfl e20 ?_
                obtain ⟨v22, e23, h⟩ := wp_lt h
                refine dl_inc wi_180_134 l4 rfl e23 (fun lv l4 t21 => ?_)
                have l0 := t21 _ _ (by decide) (Or.inl rfl) l0
                have l2 := t21 _ _ (by decide) (Or.inl rfl) l2
                have l3 := t21 _ _ (by decide) (Or.inl rfl) l3
                refine rs_goto (tg := 45) wi_180_137 ⟨by decide, by decide⟩ ?_
                exact h _ l0 l2 l3 l4
              refine rs_ifeq (tg := 120) wi_180_106 ⟨by decide, by decide⟩ (fun q => ?_) (fun q => ?_)
              ·
                have h := wp_pos h q
                refine rs_pure wi_180_120 rfl ?_
                refine rs_topi (v := (-1)) (by decide) ?_
                exact hj121 _ h _ l0 l2 l3 l4
              ·
                have h := wp_neg h q
                refine rs_aldn wi_180_109 l0 ?_
                refine rs_aldn wi_180_110 l0 ?_
                refine dq_gi wi_180_111 wf_180_97 tf_146_3 ?_
                refine rs_V wi_180_114 wc_180_126 rfl (dq_isa tf_146_0 wa_4_184) (Nat.le_trans (by decide) hF) (ml_le wm_184 (Nat.le_trans (by decide) hLo)) rfl (sp_184 hw (Nat.le_trans (by decide : 2 ≤ 3 - 1) (Nat.sub_le_sub_right hF 1)) (ml_sub wm_184 (Nat.le_trans (by decide : 50 ≤ 75 - 25) (Nat.sub_le_sub_right hLo 25))) (wp_bind h) (fun v24 h => rs_back1 ?_))
                refine rs_goto (tg := 121) wi_180_117 ⟨by decide, by decide⟩ ?_
                exact hj121 _ h _ l0 l2 l3 l4
            ·
              have h := wp_neg h q
              exact h _
          ·
            have h := wp_neg h q
            exact h _ l5
    ·
      refine sum_all ?_ ?_
      ·
        intro x25 h lv
        have h := wp_inl h
        refine rs_pure wi_180_140 rfl ?_
        refine rs_topi (v := 0) (by decide) ?_
        exact rs_iret wi_180_141 wr_180 rfl (hQ (0, x25) h)
      refine sum_all ?_ ?_
      ·
        intro x26 h lv l5
        have h := wp_inr h
        have h := wp_inl h
        refine rs_ild wi_180_75 l5 ?_
        refine rs_pure wi_180_77 rfl ?_
        refine rs_topi (v := 0) (by decide) ?_
        refine dq_mx wi_180_78 wcn_180_118 wq8_180_118 (Nat.le_trans (by decide) hF) (Nat.le_trans (by decide) hLo) ?_
        exact rs_iret wi_180_81 wr_180 rfl (hQ ((if x26.1 < 0 then 0 else x26.1), x26.2) h)
      ·
        intro x27 h lv
        have h := wp_inr h
        have h := wp_inr h
        refine rs_pure wi_180_102 rfl ?_
        refine rs_topi (v := 1) (by decide) ?_
        exact rs_iret wi_180_103 wr_180 rfl (hQ (1, x27) h)
  refine wp_jn (B := fun p28 : Unit => ∀ lv, rx_ld lv 0 = some (.ref 146) → rx_ld lv 2 = some (.int a2) → rs (rt_P sc fm) 180 F Lo 36 lv [] (hq true c5 y w) Q) h (fun p28 h lv l0 l2 => ?_) (fun j36 hj36 h => ?_)
  ·
    refine rs_pure wi_180_36 rfl ?_
    refine rs_topi (v := 1) (by decide) ?_
    refine rs_goto (tg := 41) wi_180_37 ⟨by decide, by decide⟩ ?_
    exact hj41 _ h _ l0 l2
  refine rs_icge (tg := 36) wi_180_18 ⟨by decide, by decide⟩ (fun q => ?_) (fun q => ?_)
  ·
    have h := wp_pos h q
    exact hj36 _ h _ l0 l2
  ·
    have h := wp_neg h q
    refine rs_aldn wi_180_21 l0 ?_
    refine dq_gr wi_180_22 wf_180_21 tf_146_0 ?_
    refine dq_gr wi_180_25 wf_180_106 tf_7_3 ?_
    refine rs_ildn wi_180_28 l2 ?_
    obtain ⟨g29, h⟩ := wp_gd h
    refine dq_aald wi_180_29 (by decide) t_9 g29 (hw.2.1 _ (ib_lt g29)) ?_
    refine dq_gi wi_180_30 wf_180_110 (fK_7 (ib_lt g29)) ?_
    refine rs_ifeq (tg := 40) wi_180_33 ⟨by decide, by decide⟩ (fun q => ?_) (fun q => ?_)
    ·
      have h := wp_pos h q
      refine rs_pure wi_180_40 rfl ?_
      refine rs_topi (v := 0) (by decide) ?_
      exact hj41 _ h _ l0 l2
    ·
      have h := wp_neg h q
      exact hj36 _ h _ l0 l2
theorem wa_14_70 : rz_cn 14 (rx_yn (rt_P sc fm) 70).cls = true := (by decide +kernel : rz_cn 14 (rt_yn 70).cls = true)
theorem wa_4_180 : rz_cn 4 (rx_yn (rt_P sc fm) 180).cls = true := (by decide +kernel : rz_cn 4 (rt_yn 180).cls = true)
theorem wc_67_230 : rx_ct (rt_P sc fm) 67 230 = some (0, 70, 2) := (by decide +kernel : rt_ct 67 230 = some (0, 70, 2))
theorem wc_67_233 : rx_ct (rt_P sc fm) 67 233 = some (0, 180, 2) := (by decide +kernel : rt_ct 67 233 = some (0, 180, 2))
theorem wf_67_53 : rx_ft (rt_P sc fm) 67 53 = some (14, 5) := (by decide +kernel : rt_ft 67 53 = some (14, 5))
theorem wi_67_0 : ri (rt_P sc fm) 67 0 (.aload_n 0) (1) := ri_of (by decide +kernel) rfl
theorem wi_67_1 : ri (rt_P sc fm) 67 1 (.iload_n 1) (2) := ri_of (by decide +kernel) rfl
theorem wi_67_10 : ri (rt_P sc fm) 67 10 (.getfield 53) (13) := ri_of (by decide +kernel) rfl
theorem wi_67_13 : ri (rt_P sc fm) 67 13 (.iload_n 1) (14) := ri_of (by decide +kernel) rfl
theorem wi_67_14 : ri (rt_P sc fm) 67 14 (.iload_n 2) (15) := ri_of (by decide +kernel) rfl
theorem wi_67_15 : ri (rt_P sc fm) 67 15 (.invokevirtual 233) (18) := ri_of (by decide +kernel) rfl
theorem wi_67_18 : ri (rt_P sc fm) 67 18 (.goto 4) (21) := ri_of (by decide +kernel) rfl
theorem wi_67_2 : ri (rt_P sc fm) 67 2 (.iload_n 2) (3) := ri_of (by decide +kernel) rfl
theorem wi_67_21 : ri (rt_P sc fm) 67 21 (.iconst (-1)) (22) := ri_of (by decide +kernel) rfl
theorem wi_67_22 : ri (rt_P sc fm) 67 22 (.ireturn) (23) := ri_of (by decide +kernel) rfl
theorem wi_67_3 : ri (rt_P sc fm) 67 3 (.invokevirtual 230) (6) := ri_of (by decide +kernel) rfl
theorem wi_67_6 : ri (rt_P sc fm) 67 6 (.ifCond .eq 15) (9) := ri_of (by decide +kernel) rfl
theorem wi_67_9 : ri (rt_P sc fm) 67 9 (.aload_n 0) (10) := ri_of (by decide +kernel) rfl
theorem wm_180 : rx_ml (rt_P sc fm) 180 = 6 := (by decide +kernel : rt_ml 180 = 6)
theorem wm_70 : rx_ml (rt_P sc fm) 70 = 3 := (by decide +kernel : rt_ml 70 = 3)
theorem wr_67 : rx_rt (rt_P sc fm) 67 = (some FieldType.int) := (by decide +kernel : rt_rt 67 = (some FieldType.int))
/-- MarkHouse.effective(II)I -/
def d_67 (n : Nat) (a1 : Int32) (a2 : Int32) (c : cS) : Option (Int32 × cS) :=
  Option.bind (d_70 n a1 a2 c) (fun v1 =>
  jn (fun p2 : Int32 × cS =>
    some (p2.1, p2.2))
  (fun j22 =>
  if v1 = 0 then
    j22 ((-1), c)
  else
    Option.bind (d_180 n a1 a2 c) (fun r3 =>
    j22 (r3.1, r3.2))))
theorem sp_67 {F Lo n : Nat} {a1 : Int32} {a2 : Int32} {c y : cS} {w : cW} {K : Int32 × cS → Prop} {Q : ((Option Value) ⊕ String) → List va_E → Prop} (hw : rOK fm w) (hF : 4 ≤ F) (hLo : 100 ≤ Lo)  (h : wp (d_67 n a1 a2 c) K) (hQ : ∀ r, K r → Q (.inl (some (.int r.1))) (hq true r.2 y w)) : rs (rt_P sc fm) 67 F Lo 0 [(0, .ref 0), (1, .int a1), (2, .int a2)] [] (hq true c y w) Q := by
  unfold d_67 at h
  obtain ⟨lv, elv⟩ : ∃ lv : rx_L, lv = [(0, .ref 0), (1, .int a1), (2, .int a2)] := ⟨_, rfl⟩
  rw [← elv]
  have l0 : rx_ld lv 0 = some (.ref 0) := by rw [elv]; rfl
  have l1 : rx_ld lv 1 = some (.int a1) := by rw [elv]; rfl
  have l2 : rx_ld lv 2 = some (.int a2) := by rw [elv]; rfl
  refine rs_aldn wi_67_0 l0 ?_
  refine rs_ildn wi_67_1 l1 ?_
  refine rs_ildn wi_67_2 l2 ?_
  refine rs_V wi_67_3 wc_67_230 rfl (dq_isa tf_0_0 wa_14_70) (Nat.le_trans (by decide) hF) (ml_le wm_70 (Nat.le_trans (by decide) hLo)) rfl (sp_70 hw (Nat.le_trans (by decide : 2 ≤ 4 - 1) (Nat.sub_le_sub_right hF 1)) (ml_sub wm_70 (Nat.le_trans (by decide : 44 ≤ 100 - 22) (Nat.sub_le_sub_right hLo 22))) (wp_bind h) (fun v1 h => rs_back1 ?_))
  refine wp_jn (B := fun p2 : Int32 × cS => ∀ lv, rs (rt_P sc fm) 67 F Lo 22 lv [.int p2.1] (hq true p2.2 y w) Q) h (fun p2 h lv => ?_) (fun j22 hj22 h => ?_)
  ·
    exact rs_iret wi_67_22 wr_67 rfl (hQ (p2.1, p2.2) h)
  refine rs_ifeq (tg := 21) wi_67_6 ⟨by decide, by decide⟩ (fun q => ?_) (fun q => ?_)
  ·
    have h := wp_pos h q
    refine rs_pure wi_67_21 rfl ?_
    refine rs_topi (v := (-1)) (by decide) ?_
    exact hj22 _ h _
  ·
    have h := wp_neg h q
    refine rs_aldn wi_67_9 l0 ?_
    refine dq_gr wi_67_10 wf_67_53 tf_0_5 ?_
    refine rs_ildn wi_67_13 l1 ?_
    refine rs_ildn wi_67_14 l2 ?_
    refine rs_V wi_67_15 wc_67_233 rfl (dq_isa tf_146_0 wa_4_180) (Nat.le_trans (by decide) hF) (ml_le wm_180 (Nat.le_trans (by decide) hLo)) rfl (sp_180 hw (Nat.le_trans (by decide : 3 ≤ 4 - 1) (Nat.sub_le_sub_right hF 1)) (ml_sub wm_180 (Nat.le_trans (by decide : 75 ≤ 100 - 25) (Nat.sub_le_sub_right hLo 25))) (wp_bind h) (fun r3 h => rs_back1 ?_))
    refine rs_goto (tg := 22) wi_67_18 ⟨by decide, by decide⟩ ?_
    exact hj22 _ h _
theorem wc_187_161 : rx_ct (rt_P sc fm) 187 161 = some (0, 231, 2) := (by decide +kernel : rt_ct 187 161 = some (0, 231, 2))
theorem wc_187_168 : rx_ct (rt_P sc fm) 187 168 = some (0, 233, 3) := (by decide +kernel : rt_ct 187 168 = some (0, 233, 3))
theorem wf_187_106 : rx_ft (rt_P sc fm) 187 106 = some (9, 3) := (by decide +kernel : rt_ft 187 106 = some (9, 3))
theorem wf_187_165 : rx_ft (rt_P sc fm) 187 165 = some (6, 1) := (by decide +kernel : rt_ft 187 165 = some (6, 1))
theorem wf_187_21 : rx_ft (rt_P sc fm) 187 21 = some (4, 0) := (by decide +kernel : rt_ft 187 21 = some (4, 0))
theorem wf_187_29 : rx_ft (rt_P sc fm) 187 29 = some (4, 2) := (by decide +kernel : rt_ft 187 29 = some (4, 2))
theorem wf_187_43 : rx_ft (rt_P sc fm) 187 43 = some (9, 1) := (by decide +kernel : rt_ft 187 43 = some (9, 1))
theorem wi_187_0 : ri (rt_P sc fm) 187 0 (.iload_n 3) (1) := ri_of (by decide +kernel) rfl
theorem wi_187_1 : ri (rt_P sc fm) 187 1 (.bipush 100) (3) := ri_of (by decide +kernel) rfl
theorem wi_187_10 : ri (rt_P sc fm) 187 10 (.getfield 43) (13) := ri_of (by decide +kernel) rfl
theorem wi_187_101 : ri (rt_P sc fm) 187 101 (.iconst 0) (102) := ri_of (by decide +kernel) rfl
theorem wi_187_102 : ri (rt_P sc fm) 187 102 (.ireturn) (103) := ri_of (by decide +kernel) rfl
theorem wi_187_103 : ri (rt_P sc fm) 187 103 (.iinc 5 1) (106) := ri_of (by decide +kernel) rfl
theorem wi_187_106 : ri (rt_P sc fm) 187 106 (.goto (-43)) (109) := ri_of (by decide +kernel) rfl
theorem wi_187_109 : ri (rt_P sc fm) 187 109 (.iconst 1) (110) := ri_of (by decide +kernel) rfl
theorem wi_187_110 : ri (rt_P sc fm) 187 110 (.ireturn) (111) := ri_of (by decide +kernel) rfl
theorem wi_187_13 : ri (rt_P sc fm) 187 13 (.iload_n 3) (14) := ri_of (by decide +kernel) rfl
theorem wi_187_14 : ri (rt_P sc fm) 187 14 (.bipush 100) (16) := ri_of (by decide +kernel) rfl
theorem wi_187_16 : ri (rt_P sc fm) 187 16 (.isub) (17) := ri_of (by decide +kernel) rfl
theorem wi_187_17 : ri (rt_P sc fm) 187 17 (.aaload) (18) := ri_of (by decide +kernel) rfl
theorem wi_187_18 : ri (rt_P sc fm) 187 18 (.astore 4) (20) := ri_of (by decide +kernel) rfl
theorem wi_187_20 : ri (rt_P sc fm) 187 20 (.aload_n 0) (21) := ri_of (by decide +kernel) rfl
theorem wi_187_21 : ri (rt_P sc fm) 187 21 (.getfield 29) (24) := ri_of (by decide +kernel) rfl
theorem wi_187_24 : ri (rt_P sc fm) 187 24 (.iload_n 1) (25) := ri_of (by decide +kernel) rfl
theorem wi_187_25 : ri (rt_P sc fm) 187 25 (.aload 4) (27) := ri_of (by decide +kernel) rfl
theorem wi_187_27 : ri (rt_P sc fm) 187 27 (.invokevirtual 161) (30) := ri_of (by decide +kernel) rfl
theorem wi_187_3 : ri (rt_P sc fm) 187 3 (.if_icmp .lt 46) (6) := ri_of (by decide +kernel) rfl
theorem wi_187_30 : ri (rt_P sc fm) 187 30 (.aload_n 0) (31) := ri_of (by decide +kernel) rfl
theorem wi_187_31 : ri (rt_P sc fm) 187 31 (.getfield 29) (34) := ri_of (by decide +kernel) rfl
theorem wi_187_34 : ri (rt_P sc fm) 187 34 (.iload_n 2) (35) := ri_of (by decide +kernel) rfl
theorem wi_187_35 : ri (rt_P sc fm) 187 35 (.aload 4) (37) := ri_of (by decide +kernel) rfl
theorem wi_187_37 : ri (rt_P sc fm) 187 37 (.invokevirtual 161) (40) := ri_of (by decide +kernel) rfl
theorem wi_187_40 : ri (rt_P sc fm) 187 40 (.if_icmp .ne 7) (43) := ri_of (by decide +kernel) rfl
theorem wi_187_43 : ri (rt_P sc fm) 187 43 (.iconst 1) (44) := ri_of (by decide +kernel) rfl
theorem wi_187_44 : ri (rt_P sc fm) 187 44 (.goto 4) (47) := ri_of (by decide +kernel) rfl
theorem wi_187_47 : ri (rt_P sc fm) 187 47 (.iconst 0) (48) := ri_of (by decide +kernel) rfl
theorem wi_187_48 : ri (rt_P sc fm) 187 48 (.ireturn) (49) := ri_of (by decide +kernel) rfl
theorem wi_187_49 : ri (rt_P sc fm) 187 49 (.aload_n 0) (50) := ri_of (by decide +kernel) rfl
theorem wi_187_50 : ri (rt_P sc fm) 187 50 (.getfield 21) (53) := ri_of (by decide +kernel) rfl
theorem wi_187_53 : ri (rt_P sc fm) 187 53 (.getfield 106) (56) := ri_of (by decide +kernel) rfl
theorem wi_187_56 : ri (rt_P sc fm) 187 56 (.iload_n 3) (57) := ri_of (by decide +kernel) rfl
theorem wi_187_57 : ri (rt_P sc fm) 187 57 (.aaload) (58) := ri_of (by decide +kernel) rfl
theorem wi_187_58 : ri (rt_P sc fm) 187 58 (.astore 4) (60) := ri_of (by decide +kernel) rfl
theorem wi_187_6 : ri (rt_P sc fm) 187 6 (.aload_n 0) (7) := ri_of (by decide +kernel) rfl
theorem wi_187_60 : ri (rt_P sc fm) 187 60 (.iconst 0) (61) := ri_of (by decide +kernel) rfl
theorem wi_187_61 : ri (rt_P sc fm) 187 61 (.istore 5) (63) := ri_of (by decide +kernel) rfl
theorem wi_187_63 : ri (rt_P sc fm) 187 63 (.iload 5) (65) := ri_of (by decide +kernel) rfl
theorem wi_187_65 : ri (rt_P sc fm) 187 65 (.aload 4) (67) := ri_of (by decide +kernel) rfl
theorem wi_187_67 : ri (rt_P sc fm) 187 67 (.getfield 165) (70) := ri_of (by decide +kernel) rfl
theorem wi_187_7 : ri (rt_P sc fm) 187 7 (.getfield 21) (10) := ri_of (by decide +kernel) rfl
theorem wi_187_70 : ri (rt_P sc fm) 187 70 (.if_icmp .ge 39) (73) := ri_of (by decide +kernel) rfl
theorem wi_187_73 : ri (rt_P sc fm) 187 73 (.aload_n 0) (74) := ri_of (by decide +kernel) rfl
theorem wi_187_74 : ri (rt_P sc fm) 187 74 (.getfield 29) (77) := ri_of (by decide +kernel) rfl
theorem wi_187_77 : ri (rt_P sc fm) 187 77 (.iload_n 1) (78) := ri_of (by decide +kernel) rfl
theorem wi_187_78 : ri (rt_P sc fm) 187 78 (.aload 4) (80) := ri_of (by decide +kernel) rfl
theorem wi_187_80 : ri (rt_P sc fm) 187 80 (.iload 5) (82) := ri_of (by decide +kernel) rfl
theorem wi_187_82 : ri (rt_P sc fm) 187 82 (.invokevirtual 168) (85) := ri_of (by decide +kernel) rfl
theorem wi_187_85 : ri (rt_P sc fm) 187 85 (.aload_n 0) (86) := ri_of (by decide +kernel) rfl
theorem wi_187_86 : ri (rt_P sc fm) 187 86 (.getfield 29) (89) := ri_of (by decide +kernel) rfl
theorem wi_187_89 : ri (rt_P sc fm) 187 89 (.iload_n 2) (90) := ri_of (by decide +kernel) rfl
theorem wi_187_90 : ri (rt_P sc fm) 187 90 (.aload 4) (92) := ri_of (by decide +kernel) rfl
theorem wi_187_92 : ri (rt_P sc fm) 187 92 (.iload 5) (94) := ri_of (by decide +kernel) rfl
theorem wi_187_94 : ri (rt_P sc fm) 187 94 (.invokevirtual 168) (97) := ri_of (by decide +kernel) rfl
theorem wi_187_97 : ri (rt_P sc fm) 187 97 (.lcmp) (98) := ri_of (by decide +kernel) rfl
theorem wi_187_98 : ri (rt_P sc fm) 187 98 (.ifCond .eq 5) (101) := ri_of (by decide +kernel) rfl
theorem wr_187 : rx_rt (rt_P sc fm) 187 = (some FieldType.boolean) := (by decide +kernel : rt_rt 187 = (some FieldType.boolean))
/-- MarkHouse$Effects.isAlike(III)Z -/
def d_187 (n : Nat) (a1 : Int32) (a2 : Int32) (a3 : Int32) (c : cS) : Option (Int32) :=
  if a3 < 100 then
    if ib a3 12 then
    Option.bind (whl (R := (Unit) ⊕ (Unit)) (fun s4 : Int32 =>
      if (c.1 (kA (ix a3)) 1) ≤ s4 then
        some (.inr (.inl ()))
      else
        Option.bind (d_233 n a1 (ix a3) s4 c) (fun v5 =>
        Option.bind (d_233 n a2 (ix a3) s4 c) (fun v6 =>
        if (lg_cmp v5 v6) = 0 then
          lt (s4 + 1 : Int32) (fun v8 =>
          some (.inl v8))
        else
          some (.inr (.inr ()))))) n 0)
    (Sum.elim (fun x10 : Unit =>
      some 1)
    (fun x11 : Unit =>
      some 0))
    else none
  else
    if ib (a3 - 100) 4 then
    Option.bind (d_231 n a1 (ix (a3 - 100)) c) (fun v14 =>
    Option.bind (d_231 n a2 (ix (a3 - 100)) c) (fun v15 =>
    jn (fun p16 : Int32 =>
      if nb p16 then
      some p16
      else none)
    (fun j48 =>
    if v14 = v15 then
      j48 1
    else
      j48 0)))
    else none
theorem sp_187 {F Lo n : Nat} {a1 : Int32} {a2 : Int32} {a3 : Int32} {c y : cS} {w : cW} {K : Int32 → Prop} {Q : ((Option Value) ⊕ String) → List va_E → Prop} (hw : rOK fm w) (hF : 6 ≤ F) (hLo : 131 ≤ Lo)  (h : wp (d_187 n a1 a2 a3 c) K) (hQ : ∀ r, K r → Q (.inl (some (.int r))) (hq true c y w)) : rs (rt_P sc fm) 187 F Lo 0 [(0, .ref 146), (1, .int a1), (2, .int a2), (3, .int a3)] [] (hq true c y w) Q := by
  unfold d_187 at h
  obtain ⟨lv, elv⟩ : ∃ lv : rx_L, lv = [(0, .ref 146), (1, .int a1), (2, .int a2), (3, .int a3)] := ⟨_, rfl⟩
  rw [← elv]
  have l0 : rx_ld lv 0 = some (.ref 146) := by rw [elv]; rfl
  have l1 : rx_ld lv 1 = some (.int a1) := by rw [elv]; rfl
  have l2 : rx_ld lv 2 = some (.int a2) := by rw [elv]; rfl
  have l3 : rx_ld lv 3 = some (.int a3) := by rw [elv]; rfl
  refine rs_ildn wi_187_0 l3 ?_
  refine rs_pure wi_187_1 rfl ?_
  refine rs_topi (v := 100) (by decide) ?_
  refine rs_iclt (tg := 49) wi_187_3 ⟨by decide, by decide⟩ (fun q => ?_) (fun q => ?_)
  ·
    have h := wp_pos h q
    refine rs_aldn wi_187_49 l0 ?_
    refine dq_gr wi_187_50 wf_187_21 tf_146_0 ?_
    refine dq_gr wi_187_53 wf_187_106 tf_7_3 ?_
    refine rs_ildn wi_187_56 l3 ?_
    obtain ⟨g1, h⟩ := wp_gd h
    refine dq_aald wi_187_57 (by decide) t_9 g1 (hw.2.1 _ (ib_lt g1)) ?_
    refine dl_ast wi_187_58 rfl (fun lv l4 t2 => ?_)
    have l0 := t2 _ _ (by decide) (Or.inl rfl) l0
    have l1 := t2 _ _ (by decide) (Or.inl rfl) l1
    have l2 := t2 _ _ (by decide) (Or.inl rfl) l2
    refine rs_pure wi_187_60 rfl ?_
    refine rs_topi (v := 0) (by decide) ?_
    refine dl_ist wi_187_61 rfl (fun lv l5 t3 => ?_)
    have l0 := t3 _ _ (by decide) (Or.inl rfl) l0
    have l1 := t3 _ _ (by decide) (Or.inl rfl) l1
    have l2 := t3 _ _ (by decide) (Or.inl rfl) l2
    have l4 := t3 _ _ (by decide) (Or.inl rfl) l4
    refine whl_ex (A := fun s4 : Int32 => ∀ lv, rx_ld lv 0 = some (.ref 146) → rx_ld lv 1 = some (.int a1) → rx_ld lv 2 = some (.int a2) → rx_ld lv 4 = some (.ref (kA (ix a3))) → rx_ld lv 5 = some (.int s4) → rs (rt_P sc fm) 187 F Lo 63 lv [] (hq true c y w) Q) (B := (Sum.elim (fun x10 : Unit => ∀ lv, rs (rt_P sc fm) 187 F Lo 109 lv [] (hq true c y w) Q) (fun x11 : Unit => ∀ lv, rs (rt_P sc fm) 187 F Lo 101 lv [] (hq true c y w) Q))) ?_ ?_ _ _ (wp_bind h) _ l0 l1 l2 l4 l5
    · intro s4 h lv l0 l1 l2 l4 l5
      refine rs_ild wi_187_63 l5 ?_
      refine rs_ald wi_187_65 l4 ?_
      refine dq_gi wi_187_67 wf_187_165 (fK_1 (ib_lt g1)) ?_
      refine rs_icge (tg := 109) wi_187_70 ⟨by decide, by decide⟩ (fun q => ?_) (fun q => ?_)
      ·
        have h := wp_pos h q
        exact h _
      ·
        have h := wp_neg h q
        refine rs_aldn wi_187_73 l0 ?_
        refine dq_gr wi_187_74 wf_187_29 tf_146_2 ?_
        refine rs_ildn wi_187_77 l1 ?_
        refine rs_ald wi_187_78 l4 ?_
        refine rs_ild wi_187_80 l5 ?_
        refine rs_V wi_187_82 wc_187_168 rfl (dq_isa tf_133_0 wa_7_233) (Nat.le_trans (by decide) hF) (ml_le wm_233 (Nat.le_trans (by decide) hLo)) rfl (sp_233 hw (Nat.le_trans (by decide : 1 ≤ 6 - 1) (Nat.sub_le_sub_right hF 1)) (ml_sub wm_233 (Nat.le_trans (by decide : 24 ≤ 131 - 24) (Nat.sub_le_sub_right hLo 24))) (ib_lt g1) (wp_bind h) (fun v5 h => rs_back1 ?_))
        refine rs_aldn wi_187_85 l0 ?_
        refine dq_gr wi_187_86 wf_187_29 tf_146_2 ?_
        refine rs_ildn wi_187_89 l2 ?_
        refine rs_ald wi_187_90 l4 ?_
        refine rs_ild wi_187_92 l5 ?_
        refine rs_V wi_187_94 wc_187_168 rfl (dq_isa tf_133_0 wa_7_233) (Nat.le_trans (by decide) hF) (ml_le wm_233 (Nat.le_trans (by decide) hLo)) rfl (sp_233 hw (Nat.le_trans (by decide : 1 ≤ 6 - 1) (Nat.sub_le_sub_right hF 1)) (ml_sub wm_233 (Nat.le_trans (by decide : 24 ≤ 131 - 24) (Nat.sub_le_sub_right hLo 24))) (ib_lt g1) (wp_bind h) (fun v6 h => rs_back1 ?_))
        refine rs_pure wi_187_97 rfl ?_
        refine rs_ifeq (tg := 103) wi_187_98 ⟨by decide, by decide⟩ (fun q => ?_) (fun q => ?_)
        ·
          have h := wp_pos h q
          obtain ⟨v8, e9, h⟩ := wp_lt h
          refine dl_inc wi_187_103 l5 rfl e9 (fun lv l5 t7 => ?_)
          have l0 := t7 _ _ (by decide) (Or.inl rfl) l0
          have l1 := t7 _ _ (by decide) (Or.inl rfl) l1
          have l2 := t7 _ _ (by decide) (Or.inl rfl) l2
          have l4 := t7 _ _ (by decide) (Or.inl rfl) l4
          refine rs_goto (tg := 63) wi_187_106 ⟨by decide, by decide⟩ ?_
          exact h _ l0 l1 l2 l4 l5
        ·
          have h := wp_neg h q
          exact h _
    ·
      refine sum_all ?_ ?_
      ·
        intro x10 h lv
        have h := wp_inl h
        refine rs_pure wi_187_109 rfl ?_
        refine rs_topi (v := 1) (by decide) ?_
        exact rs_iret wi_187_110 wr_187 (nb_n (by decide)) (hQ 1 h)
      ·
        intro x11 h lv
        have h := wp_inr h
        refine rs_pure wi_187_101 rfl ?_
        refine rs_topi (v := 0) (by decide) ?_
        exact rs_iret wi_187_102 wr_187 (nb_n (by decide)) (hQ 0 h)
  ·
    have h := wp_neg h q
    refine rs_aldn wi_187_6 l0 ?_
    refine dq_gr wi_187_7 wf_187_21 tf_146_0 ?_
    refine dq_gr wi_187_10 wf_187_43 tf_7_1 ?_
    refine rs_ildn wi_187_13 l3 ?_
    refine rs_pure wi_187_14 rfl ?_
    refine rs_topi (v := 100) (by decide) ?_
    refine rs_pure wi_187_16 rfl ?_
    obtain ⟨g12, h⟩ := wp_gd h
    refine dq_aald wi_187_17 (by decide) t_8 g12 (hw.1 _ (ib_lt g12)) ?_
    refine dl_ast wi_187_18 rfl (fun lv l4 t13 => ?_)
    have l0 := t13 _ _ (by decide) (Or.inl rfl) l0
    have l1 := t13 _ _ (by decide) (Or.inl rfl) l1
    have l2 := t13 _ _ (by decide) (Or.inl rfl) l2
    refine rs_aldn wi_187_20 l0 ?_
    refine dq_gr wi_187_21 wf_187_29 tf_146_2 ?_
    refine rs_ildn wi_187_24 l1 ?_
    refine rs_ald wi_187_25 l4 ?_
    refine rs_V wi_187_27 wc_187_161 rfl (dq_isa tf_133_0 wa_7_231) (Nat.le_trans (by decide) hF) (ml_le wm_231 (Nat.le_trans (by decide) hLo)) rfl (sp_231 hw (Nat.le_trans (by decide : 5 ≤ 6 - 1) (Nat.sub_le_sub_right hF 1)) (ml_sub wm_231 (Nat.le_trans (by decide : 108 ≤ 131 - 23) (Nat.sub_le_sub_right hLo 23))) (ib_lt g12) (wp_bind h) (fun v14 h => rs_back1 ?_))
    refine rs_aldn wi_187_30 l0 ?_
    refine dq_gr wi_187_31 wf_187_29 tf_146_2 ?_
    refine rs_ildn wi_187_34 l2 ?_
    refine rs_ald wi_187_35 l4 ?_
    refine rs_V wi_187_37 wc_187_161 rfl (dq_isa tf_133_0 wa_7_231) (Nat.le_trans (by decide) hF) (ml_le wm_231 (Nat.le_trans (by decide) hLo)) rfl (sp_231 hw (Nat.le_trans (by decide : 5 ≤ 6 - 1) (Nat.sub_le_sub_right hF 1)) (ml_sub wm_231 (Nat.le_trans (by decide : 108 ≤ 131 - 23) (Nat.sub_le_sub_right hLo 23))) (ib_lt g12) (wp_bind h) (fun v15 h => rs_back1 ?_))
    refine wp_jn (B := fun p16 : Int32 => ∀ lv, rs (rt_P sc fm) 187 F Lo 48 lv [.int p16] (hq true c y w) Q) h (fun p16 h lv => ?_) (fun j48 hj48 h => ?_)
    ·
      obtain ⟨g17, h⟩ := wp_gd h
      exact rs_iret wi_187_48 wr_187 (nb_n g17) (hQ p16 h)
    refine rs_icne (tg := 47) wi_187_40 ⟨by decide, by decide⟩ (fun q => ?_) (fun q => ?_)
    ·
      have h := wp_neg h q
      refine rs_pure wi_187_47 rfl ?_
      refine rs_topi (v := 0) (by decide) ?_
      exact hj48 _ h _
    ·
      have h := wp_pos h q
      refine rs_pure wi_187_43 rfl ?_
      refine rs_topi (v := 1) (by decide) ?_
      refine rs_goto (tg := 48) wi_187_44 ⟨by decide, by decide⟩ ?_
      exact hj48 _ h _
theorem wa_4_187 : rz_cn 4 (rx_yn (rt_P sc fm) 187).cls = true := (by decide +kernel : rz_cn 4 (rt_yn 187).cls = true)
theorem wc_186_133 : rx_ct (rt_P sc fm) 186 133 = some (0, 183, 2) := (by decide +kernel : rt_ct 186 133 = some (0, 183, 2))
theorem wc_186_157 : rx_ct (rt_P sc fm) 186 157 = some (0, 187, 3) := (by decide +kernel : rt_ct 186 157 = some (0, 187, 3))
theorem wf_186_103 : rx_ft (rt_P sc fm) 186 103 = some (4, 5) := (by decide +kernel : rt_ft 186 103 = some (4, 5))
theorem wf_186_29 : rx_ft (rt_P sc fm) 186 29 = some (4, 2) := (by decide +kernel : rt_ft 186 29 = some (4, 2))
theorem wf_186_59 : rx_ft (rt_P sc fm) 186 59 = some (7, 8) := (by decide +kernel : rt_ft 186 59 = some (7, 8))
theorem wf_186_64 : rx_ft (rt_P sc fm) 186 64 = some (7, 10) := (by decide +kernel : rt_ft 186 64 = some (7, 10))
theorem wf_186_78 : rx_ft (rt_P sc fm) 186 78 = some (7, 4) := (by decide +kernel : rt_ft 186 78 = some (7, 4))
theorem wf_186_97 : rx_ft (rt_P sc fm) 186 97 = some (4, 3) := (by decide +kernel : rt_ft 186 97 = some (4, 3))
theorem wi_186_0 : ri (rt_P sc fm) 186 0 (.aload_n 0) (1) := ri_of (by decide +kernel) rfl
theorem wi_186_1 : ri (rt_P sc fm) 186 1 (.getfield 29) (4) := ri_of (by decide +kernel) rfl
theorem wi_186_11 : ri (rt_P sc fm) 186 11 (.iaload) (12) := ri_of (by decide +kernel) rfl
theorem wi_186_12 : ri (rt_P sc fm) 186 12 (.istore_n 2) (13) := ri_of (by decide +kernel) rfl
theorem wi_186_13 : ri (rt_P sc fm) 186 13 (.iconst 0) (14) := ri_of (by decide +kernel) rfl
theorem wi_186_14 : ri (rt_P sc fm) 186 14 (.istore_n 3) (15) := ri_of (by decide +kernel) rfl
theorem wi_186_15 : ri (rt_P sc fm) 186 15 (.aload_n 0) (16) := ri_of (by decide +kernel) rfl
theorem wi_186_16 : ri (rt_P sc fm) 186 16 (.getfield 103) (19) := ri_of (by decide +kernel) rfl
theorem wi_186_19 : ri (rt_P sc fm) 186 19 (.ifCond .lt 64) (22) := ri_of (by decide +kernel) rfl
theorem wi_186_22 : ri (rt_P sc fm) 186 22 (.iload_n 3) (23) := ri_of (by decide +kernel) rfl
theorem wi_186_23 : ri (rt_P sc fm) 186 23 (.aload_n 0) (24) := ri_of (by decide +kernel) rfl
theorem wi_186_24 : ri (rt_P sc fm) 186 24 (.getfield 29) (27) := ri_of (by decide +kernel) rfl
theorem wi_186_27 : ri (rt_P sc fm) 186 27 (.getfield 64) (30) := ri_of (by decide +kernel) rfl
theorem wi_186_30 : ri (rt_P sc fm) 186 30 (.aload_n 0) (31) := ri_of (by decide +kernel) rfl
theorem wi_186_31 : ri (rt_P sc fm) 186 31 (.getfield 97) (34) := ri_of (by decide +kernel) rfl
theorem wi_186_34 : ri (rt_P sc fm) 186 34 (.iaload) (35) := ri_of (by decide +kernel) rfl
theorem wi_186_35 : ri (rt_P sc fm) 186 35 (.if_icmp .ge 48) (38) := ri_of (by decide +kernel) rfl
theorem wi_186_38 : ri (rt_P sc fm) 186 38 (.aload_n 0) (39) := ri_of (by decide +kernel) rfl
theorem wi_186_39 : ri (rt_P sc fm) 186 39 (.iload_n 2) (40) := ri_of (by decide +kernel) rfl
theorem wi_186_4 : ri (rt_P sc fm) 186 4 (.getfield 59) (7) := ri_of (by decide +kernel) rfl
theorem wi_186_40 : ri (rt_P sc fm) 186 40 (.iload_n 1) (41) := ri_of (by decide +kernel) rfl
theorem wi_186_41 : ri (rt_P sc fm) 186 41 (.invokevirtual 133) (44) := ri_of (by decide +kernel) rfl
theorem wi_186_44 : ri (rt_P sc fm) 186 44 (.istore 4) (46) := ri_of (by decide +kernel) rfl
theorem wi_186_46 : ri (rt_P sc fm) 186 46 (.iload 4) (48) := ri_of (by decide +kernel) rfl
theorem wi_186_48 : ri (rt_P sc fm) 186 48 (.ifCond .lt 19) (51) := ri_of (by decide +kernel) rfl
theorem wi_186_51 : ri (rt_P sc fm) 186 51 (.aload_n 0) (52) := ri_of (by decide +kernel) rfl
theorem wi_186_52 : ri (rt_P sc fm) 186 52 (.iload 4) (54) := ri_of (by decide +kernel) rfl
theorem wi_186_54 : ri (rt_P sc fm) 186 54 (.aload_n 0) (55) := ri_of (by decide +kernel) rfl
theorem wi_186_55 : ri (rt_P sc fm) 186 55 (.getfield 103) (58) := ri_of (by decide +kernel) rfl
theorem wi_186_58 : ri (rt_P sc fm) 186 58 (.iload_n 1) (59) := ri_of (by decide +kernel) rfl
theorem wi_186_59 : ri (rt_P sc fm) 186 59 (.invokevirtual 157) (62) := ri_of (by decide +kernel) rfl
theorem wi_186_62 : ri (rt_P sc fm) 186 62 (.ifCond .ne 5) (65) := ri_of (by decide +kernel) rfl
theorem wi_186_65 : ri (rt_P sc fm) 186 65 (.iconst 1) (66) := ri_of (by decide +kernel) rfl
theorem wi_186_66 : ri (rt_P sc fm) 186 66 (.ireturn) (67) := ri_of (by decide +kernel) rfl
theorem wi_186_67 : ri (rt_P sc fm) 186 67 (.aload_n 0) (68) := ri_of (by decide +kernel) rfl
theorem wi_186_68 : ri (rt_P sc fm) 186 68 (.getfield 29) (71) := ri_of (by decide +kernel) rfl
theorem wi_186_7 : ri (rt_P sc fm) 186 7 (.aload_n 0) (8) := ri_of (by decide +kernel) rfl
theorem wi_186_71 : ri (rt_P sc fm) 186 71 (.getfield 78) (74) := ri_of (by decide +kernel) rfl
theorem wi_186_74 : ri (rt_P sc fm) 186 74 (.iload_n 2) (75) := ri_of (by decide +kernel) rfl
theorem wi_186_75 : ri (rt_P sc fm) 186 75 (.iaload) (76) := ri_of (by decide +kernel) rfl
theorem wi_186_76 : ri (rt_P sc fm) 186 76 (.istore_n 2) (77) := ri_of (by decide +kernel) rfl
theorem wi_186_77 : ri (rt_P sc fm) 186 77 (.iinc 3 1) (80) := ri_of (by decide +kernel) rfl
theorem wi_186_8 : ri (rt_P sc fm) 186 8 (.getfield 97) (11) := ri_of (by decide +kernel) rfl
theorem wi_186_80 : ri (rt_P sc fm) 186 80 (.goto (-65)) (83) := ri_of (by decide +kernel) rfl
theorem wi_186_83 : ri (rt_P sc fm) 186 83 (.iconst 0) (84) := ri_of (by decide +kernel) rfl
theorem wi_186_84 : ri (rt_P sc fm) 186 84 (.ireturn) (85) := ri_of (by decide +kernel) rfl
theorem wm_187 : rx_ml (rt_P sc fm) 187 = 6 := (by decide +kernel : rt_ml 187 = 6)
theorem wr_186 : rx_rt (rt_P sc fm) 186 = (some FieldType.boolean) := (by decide +kernel : rt_rt 186 = (some FieldType.boolean))
/-- MarkHouse$Effects.clashes(I)Z -/
def d_186 (n : Nat) (a1 : Int32) (c : cS) : Option (Int32) :=
  if ib (c.1 146 3) 2242 then
  lt ((c.1 142 (ix (c.1 146 3))) : Int32) (fun v3 =>
  Option.bind (whl (R := (Unit) ⊕ (Unit)) (fun s6 : Int32 × Int32 =>
    if (c.1 146 5) < 0 then
      some (.inr (.inl ()))
    else
      if ib (c.1 146 3) 2242 then
      if (c.1 144 (ix (c.1 146 3))) ≤ s6.2 then
        some (.inr (.inl ()))
      else
        Option.bind (d_183 n s6.1 a1 c) (fun v8 =>
        jn (fun p10 : Unit =>
          if ib s6.1 4096 then
          lt ((c.1 138 (ix s6.1)) : Int32) (fun v13 =>
          lt (s6.2 + 1 : Int32) (fun v16 =>
          some (.inl (v13, v16))))
          else none)
        (fun j67 =>
        if v8 < 0 then
          j67 ()
        else
          Option.bind (d_187 n v8 (c.1 146 5) a1 c) (fun v18 =>
          if v18 = 0 then
            some (.inr (.inr ()))
          else
            j67 ())))
      else none) n (v3, 0))
  (Sum.elim (fun x19 : Unit =>
    some 0)
  (fun x20 : Unit =>
    some 1)))
  else none
theorem sp_186 {F Lo n : Nat} {a1 : Int32} {c y : cS} {w : cW} {K : Int32 → Prop} {Q : ((Option Value) ⊕ String) → List va_E → Prop} (hw : rOK fm w) (hF : 7 ≤ F) (hLo : 156 ≤ Lo)  (h : wp (d_186 n a1 c) K) (hQ : ∀ r, K r → Q (.inl (some (.int r))) (hq true c y w)) : rs (rt_P sc fm) 186 F Lo 0 [(0, .ref 146), (1, .int a1)] [] (hq true c y w) Q := by
  unfold d_186 at h
  obtain ⟨lv, elv⟩ : ∃ lv : rx_L, lv = [(0, .ref 146), (1, .int a1)] := ⟨_, rfl⟩
  rw [← elv]
  have l0 : rx_ld lv 0 = some (.ref 146) := by rw [elv]; rfl
  have l1 : rx_ld lv 1 = some (.int a1) := by rw [elv]; rfl
  refine rs_aldn wi_186_0 l0 ?_
  refine dq_gr wi_186_1 wf_186_29 tf_146_2 ?_
  refine dq_gr wi_186_4 wf_186_59 tf_133_8 ?_
  refine rs_aldn wi_186_7 l0 ?_
  refine dq_gi wi_186_8 wf_186_97 tf_146_3 ?_
  obtain ⟨g1, h⟩ := wp_gd h
  refine dq_iald wi_186_11 t_142 g1 ?_
  obtain ⟨v3, e4, h⟩ := wp_lt h
  refine rs_topi e4 ?_
  refine dl_istn wi_186_12 rfl (fun lv l2 t2 => ?_)
  have l0 := t2 _ _ (by decide) (Or.inl rfl) l0
  have l1 := t2 _ _ (by decide) (Or.inl rfl) l1
  refine rs_pure wi_186_13 rfl ?_
  refine rs_topi (v := 0) (by decide) ?_
  refine dl_istn wi_186_14 rfl (fun lv l3 t5 => ?_)
  have l0 := t5 _ _ (by decide) (Or.inl rfl) l0
  have l1 := t5 _ _ (by decide) (Or.inl rfl) l1
  have l2 := t5 _ _ (by decide) (Or.inl rfl) l2
  refine whl_ex (A := fun s6 : Int32 × Int32 => ∀ lv, rx_ld lv 0 = some (.ref 146) → rx_ld lv 1 = some (.int a1) → rx_ld lv 2 = some (.int s6.1) → rx_ld lv 3 = some (.int s6.2) → rs (rt_P sc fm) 186 F Lo 15 lv [] (hq true c y w) Q) (B := (Sum.elim (fun x19 : Unit => ∀ lv, rs (rt_P sc fm) 186 F Lo 83 lv [] (hq true c y w) Q) (fun x20 : Unit => ∀ lv, rs (rt_P sc fm) 186 F Lo 65 lv [] (hq true c y w) Q))) ?_ ?_ _ _ (wp_bind h) _ l0 l1 l2 l3
  · intro s6 h lv l0 l1 l2 l3
    refine rs_aldn wi_186_15 l0 ?_
    refine dq_gi wi_186_16 wf_186_103 tf_146_5 ?_
    refine rs_iflt (tg := 83) wi_186_19 ⟨by decide, by decide⟩ (fun q => ?_) (fun q => ?_)
    ·
      have h := wp_pos h q
      exact h _
    ·
      have h := wp_neg h q
      refine rs_ildn wi_186_22 l3 ?_
      refine rs_aldn wi_186_23 l0 ?_
      refine dq_gr wi_186_24 wf_186_29 tf_146_2 ?_
      refine dq_gr wi_186_27 wf_186_64 tf_133_10 ?_
      refine rs_aldn wi_186_30 l0 ?_
      refine dq_gi wi_186_31 wf_186_97 tf_146_3 ?_
      obtain ⟨g7, h⟩ := wp_gd h
      refine dq_iald wi_186_34 t_144 g7 ?_
      refine rs_icge (tg := 83) wi_186_35 ⟨by decide, by decide⟩ (fun q => ?_) (fun q => ?_)
      ·
        have h := wp_pos h q
        exact h _
      ·
        have h := wp_neg h q
        refine rs_aldn wi_186_38 l0 ?_
        refine rs_ildn wi_186_39 l2 ?_
        refine rs_ildn wi_186_40 l1 ?_
        refine rs_V wi_186_41 wc_186_133 rfl (dq_isa tf_146_0 wa_4_183) (Nat.le_trans (by decide) hF) (ml_le wm_183 (Nat.le_trans (by decide) hLo)) rfl (sp_183 hw (Nat.le_trans (by decide : 1 ≤ 7 - 1) (Nat.sub_le_sub_right hF 1)) (ml_sub wm_183 (Nat.le_trans (by decide : 21 ≤ 156 - 22) (Nat.sub_le_sub_right hLo 22))) (wp_bind h) (fun v8 h => rs_back1 ?_))
        refine dl_ist wi_186_44 rfl (fun lv l4 t9 => ?_)
        have l0 := t9 _ _ (by decide) (Or.inl rfl) l0
        have l1 := t9 _ _ (by decide) (Or.inl rfl) l1
        have l2 := t9 _ _ (by decide) (Or.inl rfl) l2
        have l3 := t9 _ _ (by decide) (Or.inl rfl) l3
        refine rs_ild wi_186_46 l4 ?_
        refine wp_jn (B := fun p10 : Unit => ∀ lv, rx_ld lv 0 = some (.ref 146) → rx_ld lv 1 = some (.int a1) → rx_ld lv 2 = some (.int s6.1) → rx_ld lv 3 = some (.int s6.2) → rs (rt_P sc fm) 186 F Lo 67 lv [] (hq true c y w) Q) h (fun p10 h lv l0 l1 l2 l3 => ?_) (fun j67 hj67 h => ?_)
        ·
          refine rs_aldn wi_186_67 l0 ?_
          refine dq_gr wi_186_68 wf_186_29 tf_146_2 ?_
          refine dq_gr wi_186_71 wf_186_78 tf_133_4 ?_
          refine rs_ildn wi_186_74 l2 ?_
          obtain ⟨g11, h⟩ := wp_gd h
          refine dq_iald wi_186_75 t_138 g11 ?_
          obtain ⟨v13, e14, h⟩ := wp_lt h
          refine rs_topi e14 ?_
          refine dl_istn wi_186_76 rfl (fun lv l2 t12 => ?_)
          have l0 := t12 _ _ (by decide) (Or.inl rfl) l0
          have l1 := t12 _ _ (by decide) (Or.inl rfl) l1
          have l3 := t12 _ _ (by decide) (Or.inl rfl) l3
          obtain ⟨v16, e17, h⟩ := wp_lt h
          refine dl_inc wi_186_77 l3 rfl e17 (fun lv l3 t15 => ?_)
          have l0 := t15 _ _ (by decide) (Or.inl rfl) l0
          have l1 := t15 _ _ (by decide) (Or.inl rfl) l1
          have l2 := t15 _ _ (by decide) (Or.inl rfl) l2
          refine rs_goto (tg := 15) wi_186_80 ⟨by decide, by decide⟩ ?_
          exact h _ l0 l1 l2 l3
        refine rs_iflt (tg := 67) wi_186_48 ⟨by decide, by decide⟩ (fun q => ?_) (fun q => ?_)
        ·
          have h := wp_pos h q
          exact hj67 _ h _ l0 l1 l2 l3
        ·
          have h := wp_neg h q
          refine rs_aldn wi_186_51 l0 ?_
          refine rs_ild wi_186_52 l4 ?_
          refine rs_aldn wi_186_54 l0 ?_
          refine dq_gi wi_186_55 wf_186_103 tf_146_5 ?_
          refine rs_ildn wi_186_58 l1 ?_
          refine rs_V wi_186_59 wc_186_157 rfl (dq_isa tf_146_0 wa_4_187) (Nat.le_trans (by decide) hF) (ml_le wm_187 (Nat.le_trans (by decide) hLo)) rfl (sp_187 hw (Nat.le_trans (by decide : 6 ≤ 7 - 1) (Nat.sub_le_sub_right hF 1)) (ml_sub wm_187 (Nat.le_trans (by decide : 131 ≤ 156 - 25) (Nat.sub_le_sub_right hLo 25))) (wp_bind h) (fun v18 h => rs_back1 ?_))
          refine rs_ifne (tg := 67) wi_186_62 ⟨by decide, by decide⟩ (fun q => ?_) (fun q => ?_)
          ·
            have h := wp_neg h q
            exact hj67 _ h _ l0 l1 l2 l3
          ·
            have h := wp_pos h q
            exact h _
  ·
    refine sum_all ?_ ?_
    ·
      intro x19 h lv
      have h := wp_inl h
      refine rs_pure wi_186_83 rfl ?_
      refine rs_topi (v := 0) (by decide) ?_
      exact rs_iret wi_186_84 wr_186 (nb_n (by decide)) (hQ 0 h)
    ·
      intro x20 h lv
      have h := wp_inr h
      refine rs_pure wi_186_65 rfl ?_
      refine rs_topi (v := 1) (by decide) ?_
      exact rs_iret wi_186_66 wr_186 (nb_n (by decide)) (hQ 1 h)
theorem wa_4_186 : rz_cn 4 (rx_yn (rt_P sc fm) 186).cls = true := (by decide +kernel : rz_cn 4 (rt_yn 186).cls = true)
theorem wc_68_230 : rx_ct (rt_P sc fm) 68 230 = some (0, 70, 2) := (by decide +kernel : rt_ct 68 230 = some (0, 70, 2))
theorem wc_68_233 : rx_ct (rt_P sc fm) 68 233 = some (0, 180, 2) := (by decide +kernel : rt_ct 68 233 = some (0, 180, 2))
theorem wc_68_245 : rx_ct (rt_P sc fm) 68 245 = some (0, 186, 1) := (by decide +kernel : rt_ct 68 245 = some (0, 186, 1))
theorem wf_68_236 : rx_ft (rt_P sc fm) 68 236 = some (4, 3) := (by decide +kernel : rt_ft 68 236 = some (4, 3))
theorem wf_68_239 : rx_ft (rt_P sc fm) 68 239 = some (4, 4) := (by decide +kernel : rt_ft 68 239 = some (4, 4))
theorem wf_68_242 : rx_ft (rt_P sc fm) 68 242 = some (4, 5) := (by decide +kernel : rt_ft 68 242 = some (4, 5))
theorem wf_68_53 : rx_ft (rt_P sc fm) 68 53 = some (14, 5) := (by decide +kernel : rt_ft 68 53 = some (14, 5))
theorem wi_68_0 : ri (rt_P sc fm) 68 0 (.aload_n 0) (1) := ri_of (by decide +kernel) rfl
theorem wi_68_1 : ri (rt_P sc fm) 68 1 (.iload_n 1) (2) := ri_of (by decide +kernel) rfl
theorem wi_68_10 : ri (rt_P sc fm) 68 10 (.getfield 53) (13) := ri_of (by decide +kernel) rfl
theorem wi_68_100 : ri (rt_P sc fm) 68 100 (.goto 4) (103) := ri_of (by decide +kernel) rfl
theorem wi_68_103 : ri (rt_P sc fm) 68 103 (.iconst 0) (104) := ri_of (by decide +kernel) rfl
theorem wi_68_104 : ri (rt_P sc fm) 68 104 (.ireturn) (105) := ri_of (by decide +kernel) rfl
theorem wi_68_105 : ri (rt_P sc fm) 68 105 (.iconst (-1)) (106) := ri_of (by decide +kernel) rfl
theorem wi_68_106 : ri (rt_P sc fm) 68 106 (.ireturn) (107) := ri_of (by decide +kernel) rfl
theorem wi_68_13 : ri (rt_P sc fm) 68 13 (.iload_n 1) (14) := ri_of (by decide +kernel) rfl
theorem wi_68_14 : ri (rt_P sc fm) 68 14 (.iload_n 2) (15) := ri_of (by decide +kernel) rfl
theorem wi_68_15 : ri (rt_P sc fm) 68 15 (.invokevirtual 233) (18) := ri_of (by decide +kernel) rfl
theorem wi_68_18 : ri (rt_P sc fm) 68 18 (.ifCond .ne 5) (21) := ri_of (by decide +kernel) rfl
theorem wi_68_2 : ri (rt_P sc fm) 68 2 (.iload_n 2) (3) := ri_of (by decide +kernel) rfl
theorem wi_68_21 : ri (rt_P sc fm) 68 21 (.iconst (-1)) (22) := ri_of (by decide +kernel) rfl
theorem wi_68_22 : ri (rt_P sc fm) 68 22 (.ireturn) (23) := ri_of (by decide +kernel) rfl
theorem wi_68_23 : ri (rt_P sc fm) 68 23 (.iload_n 3) (24) := ri_of (by decide +kernel) rfl
theorem wi_68_24 : ri (rt_P sc fm) 68 24 (.tableswitch 81 0 3 #[32, 40, 48, 64]) (24 + rx_len (.tableswitch 81 0 3 #[32, 40, 48, 64])) := ri_of (by decide +kernel) rfl
theorem wi_68_3 : ri (rt_P sc fm) 68 3 (.invokevirtual 230) (6) := ri_of (by decide +kernel) rfl
theorem wi_68_56 : ri (rt_P sc fm) 68 56 (.aload_n 0) (57) := ri_of (by decide +kernel) rfl
theorem wi_68_57 : ri (rt_P sc fm) 68 57 (.getfield 53) (60) := ri_of (by decide +kernel) rfl
theorem wi_68_6 : ri (rt_P sc fm) 68 6 (.ifCond .eq 15) (9) := ri_of (by decide +kernel) rfl
theorem wi_68_60 : ri (rt_P sc fm) 68 60 (.getfield 236) (63) := ri_of (by decide +kernel) rfl
theorem wi_68_63 : ri (rt_P sc fm) 68 63 (.ireturn) (64) := ri_of (by decide +kernel) rfl
theorem wi_68_64 : ri (rt_P sc fm) 68 64 (.aload_n 0) (65) := ri_of (by decide +kernel) rfl
theorem wi_68_65 : ri (rt_P sc fm) 68 65 (.getfield 53) (68) := ri_of (by decide +kernel) rfl
theorem wi_68_68 : ri (rt_P sc fm) 68 68 (.getfield 239) (71) := ri_of (by decide +kernel) rfl
theorem wi_68_71 : ri (rt_P sc fm) 68 71 (.ireturn) (72) := ri_of (by decide +kernel) rfl
theorem wi_68_72 : ri (rt_P sc fm) 68 72 (.aload_n 0) (73) := ri_of (by decide +kernel) rfl
theorem wi_68_73 : ri (rt_P sc fm) 68 73 (.getfield 53) (76) := ri_of (by decide +kernel) rfl
theorem wi_68_76 : ri (rt_P sc fm) 68 76 (.getfield 242) (79) := ri_of (by decide +kernel) rfl
theorem wi_68_79 : ri (rt_P sc fm) 68 79 (.ifCond .lt 7) (82) := ri_of (by decide +kernel) rfl
theorem wi_68_82 : ri (rt_P sc fm) 68 82 (.iconst 1) (83) := ri_of (by decide +kernel) rfl
theorem wi_68_83 : ri (rt_P sc fm) 68 83 (.goto 4) (86) := ri_of (by decide +kernel) rfl
theorem wi_68_86 : ri (rt_P sc fm) 68 86 (.iconst 0) (87) := ri_of (by decide +kernel) rfl
theorem wi_68_87 : ri (rt_P sc fm) 68 87 (.ireturn) (88) := ri_of (by decide +kernel) rfl
theorem wi_68_88 : ri (rt_P sc fm) 68 88 (.aload_n 0) (89) := ri_of (by decide +kernel) rfl
theorem wi_68_89 : ri (rt_P sc fm) 68 89 (.getfield 53) (92) := ri_of (by decide +kernel) rfl
theorem wi_68_9 : ri (rt_P sc fm) 68 9 (.aload_n 0) (10) := ri_of (by decide +kernel) rfl
theorem wi_68_92 : ri (rt_P sc fm) 68 92 (.iload_n 2) (93) := ri_of (by decide +kernel) rfl
theorem wi_68_93 : ri (rt_P sc fm) 68 93 (.invokevirtual 245) (96) := ri_of (by decide +kernel) rfl
theorem wi_68_96 : ri (rt_P sc fm) 68 96 (.ifCond .eq 7) (99) := ri_of (by decide +kernel) rfl
theorem wi_68_99 : ri (rt_P sc fm) 68 99 (.iconst 1) (100) := ri_of (by decide +kernel) rfl
theorem wm_186 : rx_ml (rt_P sc fm) 186 = 5 := (by decide +kernel : rt_ml 186 = 5)
theorem wr_68 : rx_rt (rt_P sc fm) 68 = (some FieldType.int) := (by decide +kernel : rt_rt 68 = (some FieldType.int))
/-- MarkHouse.whence(III)I -/
def d_68 (n : Nat) (a1 : Int32) (a2 : Int32) (a3 : Int32) (c : cS) : Option (Int32 × cS) :=
  Option.bind (d_70 n a1 a2 c) (fun v1 =>
  jn (fun p2 : cS =>
    some ((-1), p2))
  (fun j21 =>
  if v1 = 0 then
    j21 c
  else
    Option.bind (d_180 n a1 a2 c) (fun r3 =>
    if r3.1 = 0 then
      j21 r3.2
    else
      if a3 = 0 then
        some ((r3.2.1 146 3), r3.2)
      else
      if a3 = 1 then
        some ((r3.2.1 146 4), r3.2)
      else
      if a3 = 2 then
        jn (fun p7 : Int32 =>
          some (p7, r3.2))
        (fun j87 =>
        if (r3.2.1 146 5) < 0 then
          j87 0
        else
          j87 1)
      else
      if a3 = 3 then
        Option.bind (d_186 n a2 r3.2) (fun v9 =>
        jn (fun p10 : Int32 =>
          some (p10, r3.2))
        (fun j104 =>
        if v9 = 0 then
          j104 0
        else
          j104 1))
      else
      some ((-1), r3.2))))
theorem sp_68 {F Lo n : Nat} {a1 : Int32} {a2 : Int32} {a3 : Int32} {c y : cS} {w : cW} {K : Int32 × cS → Prop} {Q : ((Option Value) ⊕ String) → List va_E → Prop} (hw : rOK fm w) (hF : 8 ≤ F) (hLo : 180 ≤ Lo)  (h : wp (d_68 n a1 a2 a3 c) K) (hQ : ∀ r, K r → Q (.inl (some (.int r.1))) (hq true r.2 y w)) : rs (rt_P sc fm) 68 F Lo 0 [(0, .ref 0), (1, .int a1), (2, .int a2), (3, .int a3)] [] (hq true c y w) Q := by
  unfold d_68 at h
  obtain ⟨lv, elv⟩ : ∃ lv : rx_L, lv = [(0, .ref 0), (1, .int a1), (2, .int a2), (3, .int a3)] := ⟨_, rfl⟩
  rw [← elv]
  have l0 : rx_ld lv 0 = some (.ref 0) := by rw [elv]; rfl
  have l1 : rx_ld lv 1 = some (.int a1) := by rw [elv]; rfl
  have l2 : rx_ld lv 2 = some (.int a2) := by rw [elv]; rfl
  have l3 : rx_ld lv 3 = some (.int a3) := by rw [elv]; rfl
  refine rs_aldn wi_68_0 l0 ?_
  refine rs_ildn wi_68_1 l1 ?_
  refine rs_ildn wi_68_2 l2 ?_
  refine rs_V wi_68_3 wc_68_230 rfl (dq_isa tf_0_0 wa_14_70) (Nat.le_trans (by decide) hF) (ml_le wm_70 (Nat.le_trans (by decide) hLo)) rfl (sp_70 hw (Nat.le_trans (by decide : 2 ≤ 8 - 1) (Nat.sub_le_sub_right hF 1)) (ml_sub wm_70 (Nat.le_trans (by decide : 44 ≤ 180 - 22) (Nat.sub_le_sub_right hLo 22))) (wp_bind h) (fun v1 h => rs_back1 ?_))
  refine wp_jn (B := fun p2 : cS => ∀ lv, rs (rt_P sc fm) 68 F Lo 21 lv [] (hq true p2 y w) Q) h (fun p2 h lv => ?_) (fun j21 hj21 h => ?_)
  ·
    refine rs_pure wi_68_21 rfl ?_
    refine rs_topi (v := (-1)) (by decide) ?_
    exact rs_iret wi_68_22 wr_68 rfl (hQ ((-1), p2) h)
  refine rs_ifeq (tg := 21) wi_68_6 ⟨by decide, by decide⟩ (fun q => ?_) (fun q => ?_)
  ·
    have h := wp_pos h q
    exact hj21 _ h _
  ·
    have h := wp_neg h q
    refine rs_aldn wi_68_9 l0 ?_
    refine dq_gr wi_68_10 wf_68_53 tf_0_5 ?_
    refine rs_ildn wi_68_13 l1 ?_
    refine rs_ildn wi_68_14 l2 ?_
    refine rs_V wi_68_15 wc_68_233 rfl (dq_isa tf_146_0 wa_4_180) (Nat.le_trans (by decide) hF) (ml_le wm_180 (Nat.le_trans (by decide) hLo)) rfl (sp_180 hw (Nat.le_trans (by decide : 3 ≤ 8 - 1) (Nat.sub_le_sub_right hF 1)) (ml_sub wm_180 (Nat.le_trans (by decide : 75 ≤ 180 - 25) (Nat.sub_le_sub_right hLo 25))) (wp_bind h) (fun r3 h => rs_back1 ?_))
    refine rs_ifne (tg := 23) wi_68_18 ⟨by decide, by decide⟩ (fun q => ?_) (fun q => ?_)
    ·
      have h := wp_neg h q
      refine rs_ildn wi_68_23 l3 ?_
      by_cases q4 : a3 = 0
      ·
        have h := wp_pos h q4
        refine rs_tsk (tg := 56) (off := 32) (v := 0) wi_68_24 q4 (by decide) (by decide) ⟨by decide, by decide⟩ ?_
        refine rs_aldn wi_68_56 l0 ?_
        refine dq_gr wi_68_57 wf_68_53 tf_0_5 ?_
        refine dq_gi wi_68_60 wf_68_236 tf_146_3 ?_
        exact rs_iret wi_68_63 wr_68 rfl (hQ ((r3.2.1 146 3), r3.2) h)
      have h := wp_neg h q4
      by_cases q5 : a3 = 1
      ·
        have h := wp_pos h q5
        refine rs_tsk (tg := 64) (off := 40) (v := 1) wi_68_24 q5 (by decide) (by decide) ⟨by decide, by decide⟩ ?_
        refine rs_aldn wi_68_64 l0 ?_
        refine dq_gr wi_68_65 wf_68_53 tf_0_5 ?_
        refine dq_gi wi_68_68 wf_68_239 tf_146_4 ?_
        exact rs_iret wi_68_71 wr_68 rfl (hQ ((r3.2.1 146 4), r3.2) h)
      have h := wp_neg h q5
      by_cases q6 : a3 = 2
      ·
        have h := wp_pos h q6
        refine rs_tsk (tg := 72) (off := 48) (v := 2) wi_68_24 q6 (by decide) (by decide) ⟨by decide, by decide⟩ ?_
        refine rs_aldn wi_68_72 l0 ?_
        refine dq_gr wi_68_73 wf_68_53 tf_0_5 ?_
        refine dq_gi wi_68_76 wf_68_242 tf_146_5 ?_
        refine wp_jn (B := fun p7 : Int32 => ∀ lv, rs (rt_P sc fm) 68 F Lo 87 lv [.int p7] (hq true r3.2 y w) Q) h (fun p7 h lv => ?_) (fun j87 hj87 h => ?_)
        ·
          exact rs_iret wi_68_87 wr_68 rfl (hQ (p7, r3.2) h)
        refine rs_iflt (tg := 86) wi_68_79 ⟨by decide, by decide⟩ (fun q => ?_) (fun q => ?_)
        ·
          have h := wp_pos h q
          refine rs_pure wi_68_86 rfl ?_
          refine rs_topi (v := 0) (by decide) ?_
          exact hj87 _ h _
        ·
          have h := wp_neg h q
          refine rs_pure wi_68_82 rfl ?_
          refine rs_topi (v := 1) (by decide) ?_
          refine rs_goto (tg := 87) wi_68_83 ⟨by decide, by decide⟩ ?_
          exact hj87 _ h _
      have h := wp_neg h q6
      by_cases q8 : a3 = 3
      ·
        have h := wp_pos h q8
        refine rs_tsk (tg := 88) (off := 64) (v := 3) wi_68_24 q8 (by decide) (by decide) ⟨by decide, by decide⟩ ?_
        refine rs_aldn wi_68_88 l0 ?_
        refine dq_gr wi_68_89 wf_68_53 tf_0_5 ?_
        refine rs_ildn wi_68_92 l2 ?_
        refine rs_V wi_68_93 wc_68_245 rfl (dq_isa tf_146_0 wa_4_186) (Nat.le_trans (by decide) hF) (ml_le wm_186 (Nat.le_trans (by decide) hLo)) rfl (sp_186 hw (Nat.le_trans (by decide : 7 ≤ 8 - 1) (Nat.sub_le_sub_right hF 1)) (ml_sub wm_186 (Nat.le_trans (by decide : 156 ≤ 180 - 24) (Nat.sub_le_sub_right hLo 24))) (wp_bind h) (fun v9 h => rs_back1 ?_))
        refine wp_jn (B := fun p10 : Int32 => ∀ lv, rs (rt_P sc fm) 68 F Lo 104 lv [.int p10] (hq true r3.2 y w) Q) h (fun p10 h lv => ?_) (fun j104 hj104 h => ?_)
        ·
          exact rs_iret wi_68_104 wr_68 rfl (hQ (p10, r3.2) h)
        refine rs_ifeq (tg := 103) wi_68_96 ⟨by decide, by decide⟩ (fun q => ?_) (fun q => ?_)
        ·
          have h := wp_pos h q
          refine rs_pure wi_68_103 rfl ?_
          refine rs_topi (v := 0) (by decide) ?_
          exact hj104 _ h _
        ·
          have h := wp_neg h q
          refine rs_pure wi_68_99 rfl ?_
          refine rs_topi (v := 1) (by decide) ?_
          refine rs_goto (tg := 104) wi_68_100 ⟨by decide, by decide⟩ ?_
          exact hj104 _ h _
      have h := wp_neg h q8
      refine rs_tsd (tg := 105) wi_68_24 (rz_sw fun k k1 k2 => by
        have kk : k = 0 ∨ k = 1 ∨ k = 2 ∨ k = 3 := by omega
        rcases kk with rfl | rfl | rfl | rfl
        · exact q4
        · exact q5
        · exact q6
        · exact q8
        ) ⟨by decide, by decide⟩ ?_
      refine rs_pure wi_68_105 rfl ?_
      refine rs_topi (v := (-1)) (by decide) ?_
      exact rs_iret wi_68_106 wr_68 rfl (hQ ((-1), r3.2) h)
    ·
      have h := wp_pos h q
      exact hj21 _ h _
theorem wc_185_130 : rx_ct (rt_P sc fm) 185 130 = some (0, 227, 1) := (by decide +kernel : rt_ct 185 130 = some (0, 227, 1))
theorem wf_185_103 : rx_ft (rt_P sc fm) 185 103 = some (4, 5) := (by decide +kernel : rt_ft 185 103 = some (4, 5))
theorem wf_185_29 : rx_ft (rt_P sc fm) 185 29 = some (4, 2) := (by decide +kernel : rt_ft 185 29 = some (4, 2))
theorem wf_185_59 : rx_ft (rt_P sc fm) 185 59 = some (7, 8) := (by decide +kernel : rt_ft 185 59 = some (7, 8))
theorem wf_185_64 : rx_ft (rt_P sc fm) 185 64 = some (7, 10) := (by decide +kernel : rt_ft 185 64 = some (7, 10))
theorem wf_185_67 : rx_ft (rt_P sc fm) 185 67 = some (7, 1) := (by decide +kernel : rt_ft 185 67 = some (7, 1))
theorem wf_185_78 : rx_ft (rt_P sc fm) 185 78 = some (7, 4) := (by decide +kernel : rt_ft 185 78 = some (7, 4))
theorem wf_185_81 : rx_ft (rt_P sc fm) 185 81 = some (7, 3) := (by decide +kernel : rt_ft 185 81 = some (7, 3))
theorem wf_185_97 : rx_ft (rt_P sc fm) 185 97 = some (4, 3) := (by decide +kernel : rt_ft 185 97 = some (4, 3))
theorem wi_185_0 : ri (rt_P sc fm) 185 0 (.aload_n 0) (1) := ri_of (by decide +kernel) rfl
theorem wi_185_1 : ri (rt_P sc fm) 185 1 (.getfield 103) (4) := ri_of (by decide +kernel) rfl
theorem wi_185_101 : ri (rt_P sc fm) 185 101 (.getfield 78) (104) := ri_of (by decide +kernel) rfl
theorem wi_185_104 : ri (rt_P sc fm) 185 104 (.iload 4) (106) := ri_of (by decide +kernel) rfl
theorem wi_185_106 : ri (rt_P sc fm) 185 106 (.iaload) (107) := ri_of (by decide +kernel) rfl
theorem wi_185_107 : ri (rt_P sc fm) 185 107 (.istore 4) (109) := ri_of (by decide +kernel) rfl
theorem wi_185_109 : ri (rt_P sc fm) 185 109 (.iinc 5 1) (112) := ri_of (by decide +kernel) rfl
theorem wi_185_11 : ri (rt_P sc fm) 185 11 (.ireturn) (12) := ri_of (by decide +kernel) rfl
theorem wi_185_112 : ri (rt_P sc fm) 185 112 (.goto (-81)) (115) := ri_of (by decide +kernel) rfl
theorem wi_185_115 : ri (rt_P sc fm) 185 115 (.iconst (-1)) (116) := ri_of (by decide +kernel) rfl
theorem wi_185_116 : ri (rt_P sc fm) 185 116 (.ireturn) (117) := ri_of (by decide +kernel) rfl
theorem wi_185_12 : ri (rt_P sc fm) 185 12 (.iload_n 2) (13) := ri_of (by decide +kernel) rfl
theorem wi_185_13 : ri (rt_P sc fm) 185 13 (.istore_n 3) (14) := ri_of (by decide +kernel) rfl
theorem wi_185_14 : ri (rt_P sc fm) 185 14 (.aload_n 0) (15) := ri_of (by decide +kernel) rfl
theorem wi_185_15 : ri (rt_P sc fm) 185 15 (.getfield 29) (18) := ri_of (by decide +kernel) rfl
theorem wi_185_18 : ri (rt_P sc fm) 185 18 (.getfield 59) (21) := ri_of (by decide +kernel) rfl
theorem wi_185_21 : ri (rt_P sc fm) 185 21 (.aload_n 0) (22) := ri_of (by decide +kernel) rfl
theorem wi_185_22 : ri (rt_P sc fm) 185 22 (.getfield 97) (25) := ri_of (by decide +kernel) rfl
theorem wi_185_25 : ri (rt_P sc fm) 185 25 (.iaload) (26) := ri_of (by decide +kernel) rfl
theorem wi_185_26 : ri (rt_P sc fm) 185 26 (.istore 4) (28) := ri_of (by decide +kernel) rfl
theorem wi_185_28 : ri (rt_P sc fm) 185 28 (.iconst 0) (29) := ri_of (by decide +kernel) rfl
theorem wi_185_29 : ri (rt_P sc fm) 185 29 (.istore 5) (31) := ri_of (by decide +kernel) rfl
theorem wi_185_31 : ri (rt_P sc fm) 185 31 (.iload 5) (33) := ri_of (by decide +kernel) rfl
theorem wi_185_33 : ri (rt_P sc fm) 185 33 (.aload_n 0) (34) := ri_of (by decide +kernel) rfl
theorem wi_185_34 : ri (rt_P sc fm) 185 34 (.getfield 29) (37) := ri_of (by decide +kernel) rfl
theorem wi_185_37 : ri (rt_P sc fm) 185 37 (.getfield 64) (40) := ri_of (by decide +kernel) rfl
theorem wi_185_4 : ri (rt_P sc fm) 185 4 (.ifCond .lt 8) (7) := ri_of (by decide +kernel) rfl
theorem wi_185_40 : ri (rt_P sc fm) 185 40 (.aload_n 0) (41) := ri_of (by decide +kernel) rfl
theorem wi_185_41 : ri (rt_P sc fm) 185 41 (.getfield 97) (44) := ri_of (by decide +kernel) rfl
theorem wi_185_44 : ri (rt_P sc fm) 185 44 (.iaload) (45) := ri_of (by decide +kernel) rfl
theorem wi_185_45 : ri (rt_P sc fm) 185 45 (.if_icmp .ge 70) (48) := ri_of (by decide +kernel) rfl
theorem wi_185_48 : ri (rt_P sc fm) 185 48 (.aload_n 0) (49) := ri_of (by decide +kernel) rfl
theorem wi_185_49 : ri (rt_P sc fm) 185 49 (.getfield 29) (52) := ri_of (by decide +kernel) rfl
theorem wi_185_52 : ri (rt_P sc fm) 185 52 (.getfield 81) (55) := ri_of (by decide +kernel) rfl
theorem wi_185_55 : ri (rt_P sc fm) 185 55 (.iload 4) (57) := ri_of (by decide +kernel) rfl
theorem wi_185_57 : ri (rt_P sc fm) 185 57 (.baload) (58) := ri_of (by decide +kernel) rfl
theorem wi_185_58 : ri (rt_P sc fm) 185 58 (.ifCond .eq 39) (61) := ri_of (by decide +kernel) rfl
theorem wi_185_61 : ri (rt_P sc fm) 185 61 (.aload_n 0) (62) := ri_of (by decide +kernel) rfl
theorem wi_185_62 : ri (rt_P sc fm) 185 62 (.getfield 29) (65) := ri_of (by decide +kernel) rfl
theorem wi_185_65 : ri (rt_P sc fm) 185 65 (.getfield 67) (68) := ri_of (by decide +kernel) rfl
theorem wi_185_68 : ri (rt_P sc fm) 185 68 (.iload 4) (70) := ri_of (by decide +kernel) rfl
theorem wi_185_7 : ri (rt_P sc fm) 185 7 (.aload_n 0) (8) := ri_of (by decide +kernel) rfl
theorem wi_185_70 : ri (rt_P sc fm) 185 70 (.iaload) (71) := ri_of (by decide +kernel) rfl
theorem wi_185_71 : ri (rt_P sc fm) 185 71 (.iload_n 1) (72) := ri_of (by decide +kernel) rfl
theorem wi_185_72 : ri (rt_P sc fm) 185 72 (.if_icmp .ne 25) (75) := ri_of (by decide +kernel) rfl
theorem wi_185_75 : ri (rt_P sc fm) 185 75 (.aload_n 0) (76) := ri_of (by decide +kernel) rfl
theorem wi_185_76 : ri (rt_P sc fm) 185 76 (.getfield 29) (79) := ri_of (by decide +kernel) rfl
theorem wi_185_79 : ri (rt_P sc fm) 185 79 (.iload 4) (81) := ri_of (by decide +kernel) rfl
theorem wi_185_8 : ri (rt_P sc fm) 185 8 (.getfield 103) (11) := ri_of (by decide +kernel) rfl
theorem wi_185_81 : ri (rt_P sc fm) 185 81 (.invokevirtual 130) (84) := ri_of (by decide +kernel) rfl
theorem wi_185_84 : ri (rt_P sc fm) 185 84 (.ifCond .ne 13) (87) := ri_of (by decide +kernel) rfl
theorem wi_185_87 : ri (rt_P sc fm) 185 87 (.iload_n 3) (88) := ri_of (by decide +kernel) rfl
theorem wi_185_88 : ri (rt_P sc fm) 185 88 (.ifCond .ne 6) (91) := ri_of (by decide +kernel) rfl
theorem wi_185_91 : ri (rt_P sc fm) 185 91 (.iload 4) (93) := ri_of (by decide +kernel) rfl
theorem wi_185_93 : ri (rt_P sc fm) 185 93 (.ireturn) (94) := ri_of (by decide +kernel) rfl
theorem wi_185_94 : ri (rt_P sc fm) 185 94 (.iinc 3 (-1)) (97) := ri_of (by decide +kernel) rfl
theorem wi_185_97 : ri (rt_P sc fm) 185 97 (.aload_n 0) (98) := ri_of (by decide +kernel) rfl
theorem wi_185_98 : ri (rt_P sc fm) 185 98 (.getfield 29) (101) := ri_of (by decide +kernel) rfl
theorem wr_185 : rx_rt (rt_P sc fm) 185 = (some FieldType.int) := (by decide +kernel : rt_rt 185 = (some FieldType.int))
/-- MarkHouse$Effects.seenMark(II)I -/
def d_185 (n : Nat) (a1 : Int32) (a2 : Int32) (c : cS) : Option (Int32) :=
  if (c.1 146 5) < 0 then
    if ib (c.1 146 3) 2242 then
    lt ((c.1 142 (ix (c.1 146 3))) : Int32) (fun v4 =>
    Option.bind (whl (R := (Unit) ⊕ (Int32)) (fun s7 : Int32 × Int32 × Int32 =>
      if ib (c.1 146 3) 2242 then
      if (c.1 144 (ix (c.1 146 3))) ≤ s7.2.2 then
        some (.inr (.inl ()))
      else
        if ib s7.2.1 4096 then
        jn (fun p10 : Int32 =>
          if ib s7.2.1 4096 then
          lt ((c.1 138 (ix s7.2.1)) : Int32) (fun v13 =>
          lt (s7.2.2 + 1 : Int32) (fun v16 =>
          some (.inl (p10, v13, v16))))
          else none)
        (fun j97 =>
        if (c.1 137 (ix s7.2.1)) = 0 then
          j97 s7.1
        else
          if ib s7.2.1 4096 then
          if (c.1 135 (ix s7.2.1)) = a1 then
            Option.bind (d_227 n s7.2.1 c) (fun v19 =>
            if v19 = 0 then
              if s7.1 = 0 then
                some (.inr (.inr s7.2.1))
              else
                lt (s7.1 + (-1) : Int32) (fun v21 =>
                j97 v21)
            else
              j97 s7.1)
          else
            j97 s7.1
          else none)
        else none
      else none) n (a2, v4, 0))
    (Sum.elim (fun x23 : Unit =>
      some (-1))
    (fun x24 : Int32 =>
      some x24)))
    else none
  else
    some (c.1 146 5)
theorem sp_185 {F Lo n : Nat} {a1 : Int32} {a2 : Int32} {c y : cS} {w : cW} {K : Int32 → Prop} {Q : ((Option Value) ⊕ String) → List va_E → Prop} (hw : rOK fm w) (hF : 1 ≤ F) (hLo : 21 ≤ Lo)  (h : wp (d_185 n a1 a2 c) K) (hQ : ∀ r, K r → Q (.inl (some (.int r))) (hq true c y w)) : rs (rt_P sc fm) 185 F Lo 0 [(0, .ref 146), (1, .int a1), (2, .int a2)] [] (hq true c y w) Q := by
  unfold d_185 at h
  obtain ⟨lv, elv⟩ : ∃ lv : rx_L, lv = [(0, .ref 146), (1, .int a1), (2, .int a2)] := ⟨_, rfl⟩
  rw [← elv]
  have l0 : rx_ld lv 0 = some (.ref 146) := by rw [elv]; rfl
  have l1 : rx_ld lv 1 = some (.int a1) := by rw [elv]; rfl
  have l2 : rx_ld lv 2 = some (.int a2) := by rw [elv]; rfl
  refine rs_aldn wi_185_0 l0 ?_
  refine dq_gi wi_185_1 wf_185_103 tf_146_5 ?_
  refine rs_iflt (tg := 12) wi_185_4 ⟨by decide, by decide⟩ (fun q => ?_) (fun q => ?_)
  ·
    have h := wp_pos h q
    refine rs_ildn wi_185_12 l2 ?_
    refine dl_istn wi_185_13 rfl (fun lv l3 t1 => ?_)
    have l0 := t1 _ _ (by decide) (Or.inl rfl) l0
    have l1 := t1 _ _ (by decide) (Or.inl rfl) l1
    refine rs_aldn wi_185_14 l0 ?_
    refine dq_gr wi_185_15 wf_185_29 tf_146_2 ?_
    refine dq_gr wi_185_18 wf_185_59 tf_133_8 ?_
    refine rs_aldn wi_185_21 l0 ?_
    refine dq_gi wi_185_22 wf_185_97 tf_146_3 ?_
    obtain ⟨g2, h⟩ := wp_gd h
    refine dq_iald wi_185_25 t_142 g2 ?_
    obtain ⟨v4, e5, h⟩ := wp_lt h
    refine rs_topi e5 ?_
    refine dl_ist wi_185_26 rfl (fun lv l4 t3 => ?_)
    have l0 := t3 _ _ (by decide) (Or.inl rfl) l0
    have l1 := t3 _ _ (by decide) (Or.inl rfl) l1
    have l3 := t3 _ _ (by decide) (Or.inl rfl) l3
    refine rs_pure wi_185_28 rfl ?_
    refine rs_topi (v := 0) (by decide) ?_
    refine dl_ist wi_185_29 rfl (fun lv l5 t6 => ?_)
    have l0 := t6 _ _ (by decide) (Or.inl rfl) l0
    have l1 := t6 _ _ (by decide) (Or.inl rfl) l1
    have l3 := t6 _ _ (by decide) (Or.inl rfl) l3
    have l4 := t6 _ _ (by decide) (Or.inl rfl) l4
    refine whl_ex (A := fun s7 : Int32 × Int32 × Int32 => ∀ lv, rx_ld lv 0 = some (.ref 146) → rx_ld lv 1 = some (.int a1) → rx_ld lv 3 = some (.int s7.1) → rx_ld lv 4 = some (.int s7.2.1) → rx_ld lv 5 = some (.int s7.2.2) → rs (rt_P sc fm) 185 F Lo 31 lv [] (hq true c y w) Q) (B := (Sum.elim (fun x23 : Unit => ∀ lv, rs (rt_P sc fm) 185 F Lo 115 lv [] (hq true c y w) Q) (fun x24 : Int32 => ∀ lv, rx_ld lv 4 = some (.int x24) → rs (rt_P sc fm) 185 F Lo 91 lv [] (hq true c y w) Q))) ?_ ?_ _ _ (wp_bind h) _ l0 l1 l3 l4 l5
    · intro s7 h lv l0 l1 l3 l4 l5
      refine rs_ild wi_185_31 l5 ?_
      refine rs_aldn wi_185_33 l0 ?_
      refine dq_gr wi_185_34 wf_185_29 tf_146_2 ?_
      refine dq_gr wi_185_37 wf_185_64 tf_133_10 ?_
      refine rs_aldn wi_185_40 l0 ?_
      refine dq_gi wi_185_41 wf_185_97 tf_146_3 ?_
      obtain ⟨g8, h⟩ := wp_gd h
      refine dq_iald wi_185_44 t_144 g8 ?_
      refine rs_icge (tg := 115) wi_185_45 ⟨by decide, by decide⟩ (fun q => ?_) (fun q => ?_)
      ·
        have h := wp_pos h q
        exact h _
      ·
        have h := wp_neg h q
        refine rs_aldn wi_185_48 l0 ?_
        refine dq_gr wi_185_49 wf_185_29 tf_146_2 ?_
        refine dq_gr wi_185_52 wf_185_81 tf_133_3 ?_
        refine rs_ild wi_185_55 l4 ?_
        obtain ⟨g9, h⟩ := wp_gd h
        refine dq_zald wi_185_57 t_137 g9 ?_
        refine wp_jn (B := fun p10 : Int32 => ∀ lv, rx_ld lv 0 = some (.ref 146) → rx_ld lv 1 = some (.int a1) → rx_ld lv 3 = some (.int p10) → rx_ld lv 4 = some (.int s7.2.1) → rx_ld lv 5 = some (.int s7.2.2) → rs (rt_P sc fm) 185 F Lo 97 lv [] (hq true c y w) Q) h (fun p10 h lv l0 l1 l3 l4 l5 => ?_) (fun j97 hj97 h => ?_)
        ·
          refine rs_aldn wi_185_97 l0 ?_
          refine dq_gr wi_185_98 wf_185_29 tf_146_2 ?_
          refine dq_gr wi_185_101 wf_185_78 tf_133_4 ?_
          refine rs_ild wi_185_104 l4 ?_
          obtain ⟨g11, h⟩ := wp_gd h
          refine dq_iald wi_185_106 t_138 g11 ?_
          obtain ⟨v13, e14, h⟩ := wp_lt h
          refine rs_topi e14 ?_
          refine dl_ist wi_185_107 rfl (fun lv l4 t12 => ?_)
          have l0 := t12 _ _ (by decide) (Or.inl rfl) l0
          have l1 := t12 _ _ (by decide) (Or.inl rfl) l1
          have l3 := t12 _ _ (by decide) (Or.inl rfl) l3
          have l5 := t12 _ _ (by decide) (Or.inl rfl) l5
          obtain ⟨v16, e17, h⟩ := wp_lt h
          refine dl_inc wi_185_109 l5 rfl e17 (fun lv l5 t15 => ?_)
          have l0 := t15 _ _ (by decide) (Or.inl rfl) l0
          have l1 := t15 _ _ (by decide) (Or.inl rfl) l1
          have l3 := t15 _ _ (by decide) (Or.inl rfl) l3
          have l4 := t15 _ _ (by decide) (Or.inl rfl) l4
          refine rs_goto (tg := 31) wi_185_112 ⟨by decide, by decide⟩ ?_
          exact h _ l0 l1 l3 l4 l5
        refine rs_ifeq (tg := 97) wi_185_58 ⟨by decide, by decide⟩ (fun q => ?_) (fun q => ?_)
        ·
          have h := wp_pos h q
          exact hj97 _ h _ l0 l1 l3 l4 l5
        ·
          have h := wp_neg h q
          refine rs_aldn wi_185_61 l0 ?_
          refine dq_gr wi_185_62 wf_185_29 tf_146_2 ?_
          refine dq_gr wi_185_65 wf_185_67 tf_133_1 ?_
          refine rs_ild wi_185_68 l4 ?_
          obtain ⟨g18, h⟩ := wp_gd h
          refine dq_iald wi_185_70 t_135 g18 ?_
          refine rs_ildn wi_185_71 l1 ?_
          refine rs_icne (tg := 97) wi_185_72 ⟨by decide, by decide⟩ (fun q => ?_) (fun q => ?_)
          ·
            have h := wp_neg h q
            exact hj97 _ h _ l0 l1 l3 l4 l5
          ·
            have h := wp_pos h q
            refine rs_aldn wi_185_75 l0 ?_
            refine dq_gr wi_185_76 wf_185_29 tf_146_2 ?_
            refine rs_ild wi_185_79 l4 ?_
            refine rs_V wi_185_81 wc_185_130 rfl (dq_isa tf_133_0 wa_7_227) (Nat.le_trans (by decide) hF) (ml_le wm_227 (Nat.le_trans (by decide) hLo)) rfl (sp_227 hw (Nat.le_trans (by decide : 0 ≤ 1 - 1) (Nat.sub_le_sub_right hF 1)) (ml_sub wm_227 (Nat.le_trans (by decide : 0 ≤ 21 - 21) (Nat.sub_le_sub_right hLo 21))) (wp_bind h) (fun v19 h => rs_back1 ?_))
            refine rs_ifne (tg := 97) wi_185_84 ⟨by decide, by decide⟩ (fun q => ?_) (fun q => ?_)
            ·
              have h := wp_neg h q
              exact hj97 _ h _ l0 l1 l3 l4 l5
            ·
              have h := wp_pos h q
              refine rs_ildn wi_185_87 l3 ?_
              refine rs_ifne (tg := 94) wi_185_88 ⟨by decide, by decide⟩ (fun q => ?_) (fun q => ?_)
              ·
                have h := wp_neg h q
                obtain ⟨v21, e22, h⟩ := wp_lt h
                refine dl_inc wi_185_94 l3 rfl e22 (fun lv l3 t20 => ?_)
                have l0 := t20 _ _ (by decide) (Or.inl rfl) l0
                have l1 := t20 _ _ (by decide) (Or.inl rfl) l1
                have l4 := t20 _ _ (by decide) (Or.inl rfl) l4
                have l5 := t20 _ _ (by decide) (Or.inl rfl) l5
                exact hj97 _ h _ l0 l1 l3 l4 l5
              ·
                have h := wp_pos h q
                exact h _ l4
    ·
      refine sum_all ?_ ?_
      ·
        intro x23 h lv
        have h := wp_inl h
        refine rs_pure wi_185_115 rfl ?_
        refine rs_topi (v := (-1)) (by decide) ?_
        exact rs_iret wi_185_116 wr_185 rfl (hQ (-1) h)
      ·
        intro x24 h lv l4
        have h := wp_inr h
        refine rs_ild wi_185_91 l4 ?_
        exact rs_iret wi_185_93 wr_185 rfl (hQ x24 h)
  ·
    have h := wp_neg h q
    refine rs_aldn wi_185_7 l0 ?_
    refine dq_gi wi_185_8 wf_185_103 tf_146_5 ?_
    exact rs_iret wi_185_11 wr_185 rfl (hQ (c.1 146 5) h)
theorem wc_341_230 : rx_ct (rt_P sc fm) 341 230 = some (0, 231, 2) := (by decide +kernel : rt_ct 341 230 = some (0, 231, 2))
theorem wc_341_47 : rx_ct (rt_P sc fm) 341 47 = some (0, 318, 1) := (by decide +kernel : rt_ct 341 47 = some (0, 318, 1))
theorem wf_341_137 : rx_ft (rt_P sc fm) 341 137 = some (8, 4) := (by decide +kernel : rt_ft 341 137 = some (8, 4))
theorem wf_341_27 : rx_ft (rt_P sc fm) 341 27 = some (12, 5) := (by decide +kernel : rt_ft 341 27 = some (12, 5))
theorem wi_341_0 : ri (rt_P sc fm) 341 0 (.aload_n 0) (1) := ri_of (by decide +kernel) rfl
theorem wi_341_1 : ri (rt_P sc fm) 341 1 (.getfield 27) (4) := ri_of (by decide +kernel) rfl
theorem wi_341_10 : ri (rt_P sc fm) 341 10 (.iload_n 3) (11) := ri_of (by decide +kernel) rfl
theorem wi_341_11 : ri (rt_P sc fm) 341 11 (.ifCond .ge 6) (14) := ri_of (by decide +kernel) rfl
theorem wi_341_14 : ri (rt_P sc fm) 341 14 (.bipush (-2)) (16) := ri_of (by decide +kernel) rfl
theorem wi_341_16 : ri (rt_P sc fm) 341 16 (.ireturn) (17) := ri_of (by decide +kernel) rfl
theorem wi_341_17 : ri (rt_P sc fm) 341 17 (.aload_n 0) (18) := ri_of (by decide +kernel) rfl
theorem wi_341_18 : ri (rt_P sc fm) 341 18 (.iconst 0) (19) := ri_of (by decide +kernel) rfl
theorem wi_341_19 : ri (rt_P sc fm) 341 19 (.putfield 35) (22) := ri_of (by decide +kernel) rfl
theorem wi_341_22 : ri (rt_P sc fm) 341 22 (.aload_n 0) (23) := ri_of (by decide +kernel) rfl
theorem wi_341_23 : ri (rt_P sc fm) 341 23 (.aload_n 2) (24) := ri_of (by decide +kernel) rfl
theorem wi_341_24 : ri (rt_P sc fm) 341 24 (.getfield 137) (27) := ri_of (by decide +kernel) rfl
theorem wi_341_27 : ri (rt_P sc fm) 341 27 (.iload_n 3) (28) := ri_of (by decide +kernel) rfl
theorem wi_341_28 : ri (rt_P sc fm) 341 28 (.laload) (29) := ri_of (by decide +kernel) rfl
theorem wi_341_29 : ri (rt_P sc fm) 341 29 (.invokevirtual 47) (32) := ri_of (by decide +kernel) rfl
theorem wi_341_32 : ri (rt_P sc fm) 341 32 (.iconst 3) (33) := ri_of (by decide +kernel) rfl
theorem wi_341_33 : ri (rt_P sc fm) 341 33 (.ireturn) (34) := ri_of (by decide +kernel) rfl
theorem wi_341_4 : ri (rt_P sc fm) 341 4 (.iload_n 1) (5) := ri_of (by decide +kernel) rfl
theorem wi_341_5 : ri (rt_P sc fm) 341 5 (.aload_n 2) (6) := ri_of (by decide +kernel) rfl
theorem wi_341_6 : ri (rt_P sc fm) 341 6 (.invokevirtual 230) (9) := ri_of (by decide +kernel) rfl
theorem wi_341_9 : ri (rt_P sc fm) 341 9 (.istore_n 3) (10) := ri_of (by decide +kernel) rfl
theorem wp_341_35 : rx_pt (rt_P sc fm) 341 35 = some (12, 1, .int) := (by decide +kernel : rt_pt 341 35 = some (12, 1, .int))
theorem wr_341 : rx_rt (rt_P sc fm) 341 = (some FieldType.int) := (by decide +kernel : rt_rt 341 = (some FieldType.int))
/-- MarkHouse$Teller.writeElement(ILMarkHouse$Order;)I -/
def d_341 (n : Nat) (a1 : Int32) (o2 : Nat) (c : cS) : Option (Int32 × cS) :=
  Option.bind (d_231 n a1 o2 c) (fun v1 =>
  if 0 ≤ v1 then
    lt (pI c 172 1 0) (fun c3 =>
    if ib v1 12 then
    Option.bind (d_318 n (c3.2 (oA o2 + 1) (ix v1)) c3) (fun r6 =>
    some (3, r6))
    else none)
  else
    some ((-2), c))
theorem sp_341 {F Lo n : Nat} {a1 : Int32} {o2 : Nat} {c y : cS} {w : cW} {K : Int32 × cS → Prop} {Q : ((Option Value) ⊕ String) → List va_E → Prop} (hw : rOK fm w) (hF : 6 ≤ F) (hLo : 131 ≤ Lo) (ho2 : o2 < 4) (h : wp (d_341 n a1 o2 c) K) (hQ : ∀ r, K r → Q (.inl (some (.int r.1))) (hq true r.2 y w)) : rs (rt_P sc fm) 341 F Lo 0 [(0, .ref 172), (1, .int a1), (2, .ref (oA o2))] [] (hq true c y w) Q := by
  unfold d_341 at h
  obtain ⟨lv, elv⟩ : ∃ lv : rx_L, lv = [(0, .ref 172), (1, .int a1), (2, .ref (oA o2))] := ⟨_, rfl⟩
  rw [← elv]
  have l0 : rx_ld lv 0 = some (.ref 172) := by rw [elv]; rfl
  have l1 : rx_ld lv 1 = some (.int a1) := by rw [elv]; rfl
  have l2 : rx_ld lv 2 = some (.ref (oA o2)) := by rw [elv]; rfl
  refine rs_aldn wi_341_0 l0 ?_
  refine dq_gr wi_341_1 wf_341_27 tf_172_5 ?_
  refine rs_ildn wi_341_4 l1 ?_
  refine rs_aldn wi_341_5 l2 ?_
  refine rs_V wi_341_6 wc_341_230 rfl (dq_isa tf_133_0 wa_7_231) (Nat.le_trans (by decide) hF) (ml_le wm_231 (Nat.le_trans (by decide) hLo)) rfl (sp_231 hw (Nat.le_trans (by decide : 5 ≤ 6 - 1) (Nat.sub_le_sub_right hF 1)) (ml_sub wm_231 (Nat.le_trans (by decide : 108 ≤ 131 - 23) (Nat.sub_le_sub_right hLo 23))) ho2 (wp_bind h) (fun v1 h => rs_back1 ?_))
  refine dl_istn wi_341_9 rfl (fun lv l3 t2 => ?_)
  have l0 := t2 _ _ (by decide) (Or.inl rfl) l0
  have l2 := t2 _ _ (by decide) (Or.inl rfl) l2
  refine rs_ildn wi_341_10 l3 ?_
  refine rs_ifge (tg := 17) wi_341_11 ⟨by decide, by decide⟩ (fun q => ?_) (fun q => ?_)
  ·
    have h := wp_pos h q
    refine rs_aldn wi_341_17 l0 ?_
    refine rs_pure wi_341_18 rfl ?_
    refine rs_topi (v := 0) (by decide) ?_
    obtain ⟨c3, e4, h⟩ := wp_lt h
    refine dq_pi wi_341_19 wp_341_35 tf_172_1 rfl rfl e4 ?_
    refine rs_aldn wi_341_22 l0 ?_
    refine rs_aldn wi_341_23 l2 ?_
    refine dq_gr wi_341_24 wf_341_137 (fO_4 ho2) ?_
    refine rs_ildn wi_341_27 l3 ?_
    obtain ⟨g5, h⟩ := wp_gd h
    refine dq_lald wi_341_28 (tO_1 ho2) g5 ?_
    refine rs_V wi_341_29 wc_341_47 rfl (dq_isa tf_172_0 wa_12_318) (Nat.le_trans (by decide) hF) (ml_le wm_318 (Nat.le_trans (by decide) hLo)) rfl (sp_318 hw (Nat.le_trans (by decide : 1 ≤ 6 - 1) (Nat.sub_le_sub_right hF 1)) (ml_sub wm_318 (Nat.le_trans (by decide : 21 ≤ 131 - 24) (Nat.sub_le_sub_right hLo 24))) (wp_bind h) (fun r6 h => rs_back0 ?_))
    refine rs_pure wi_341_32 rfl ?_
    refine rs_topi (v := 3) (by decide) ?_
    exact rs_iret wi_341_33 wr_341 rfl (hQ (3, r6) h)
  ·
    have h := wp_neg h q
    refine rs_pure wi_341_14 rfl ?_
    refine rs_topi (v := (-2)) (by decide) ?_
    exact rs_iret wi_341_16 wr_341 rfl (hQ ((-2), c) h)
theorem wc_342_234 : rx_ct (rt_P sc fm) 342 234 = some (0, 232, 3) := (by decide +kernel : rt_ct 342 234 = some (0, 232, 3))
theorem wc_342_244 : rx_ct (rt_P sc fm) 342 244 = some (0, 233, 3) := (by decide +kernel : rt_ct 342 244 = some (0, 233, 3))
theorem wc_342_39 : rx_ct (rt_P sc fm) 342 39 = some (0, 317, 1) := (by decide +kernel : rt_ct 342 39 = some (0, 317, 1))
theorem wc_342_47 : rx_ct (rt_P sc fm) 342 47 = some (0, 318, 1) := (by decide +kernel : rt_ct 342 47 = some (0, 318, 1))
theorem wc_342_58 : rx_ct (rt_P sc fm) 342 58 = some (0, 319, 1) := (by decide +kernel : rt_ct 342 58 = some (0, 319, 1))
theorem wf_342_27 : rx_ft (rt_P sc fm) 342 27 = some (12, 5) := (by decide +kernel : rt_ft 342 27 = some (12, 5))
theorem wi_342_0 : ri (rt_P sc fm) 342 0 (.aload_n 0) (1) := ri_of (by decide +kernel) rfl
theorem wi_342_1 : ri (rt_P sc fm) 342 1 (.getfield 27) (4) := ri_of (by decide +kernel) rfl
theorem wi_342_10 : ri (rt_P sc fm) 342 10 (.istore 4) (12) := ri_of (by decide +kernel) rfl
theorem wi_342_12 : ri (rt_P sc fm) 342 12 (.iload 4) (14) := ri_of (by decide +kernel) rfl
theorem wi_342_14 : ri (rt_P sc fm) 342 14 (.ifCond .ge 6) (17) := ri_of (by decide +kernel) rfl
theorem wi_342_17 : ri (rt_P sc fm) 342 17 (.iload 4) (19) := ri_of (by decide +kernel) rfl
theorem wi_342_19 : ri (rt_P sc fm) 342 19 (.ireturn) (20) := ri_of (by decide +kernel) rfl
theorem wi_342_20 : ri (rt_P sc fm) 342 20 (.aload_n 0) (21) := ri_of (by decide +kernel) rfl
theorem wi_342_21 : ri (rt_P sc fm) 342 21 (.getfield 27) (24) := ri_of (by decide +kernel) rfl
theorem wi_342_24 : ri (rt_P sc fm) 342 24 (.iload_n 1) (25) := ri_of (by decide +kernel) rfl
theorem wi_342_25 : ri (rt_P sc fm) 342 25 (.aload_n 2) (26) := ri_of (by decide +kernel) rfl
theorem wi_342_26 : ri (rt_P sc fm) 342 26 (.iload_n 3) (27) := ri_of (by decide +kernel) rfl
theorem wi_342_27 : ri (rt_P sc fm) 342 27 (.invokevirtual 244) (30) := ri_of (by decide +kernel) rfl
theorem wi_342_30 : ri (rt_P sc fm) 342 30 (.lstore 5) (32) := ri_of (by decide +kernel) rfl
theorem wi_342_32 : ri (rt_P sc fm) 342 32 (.aload_n 0) (33) := ri_of (by decide +kernel) rfl
theorem wi_342_33 : ri (rt_P sc fm) 342 33 (.iconst 0) (34) := ri_of (by decide +kernel) rfl
theorem wi_342_34 : ri (rt_P sc fm) 342 34 (.putfield 35) (37) := ri_of (by decide +kernel) rfl
theorem wi_342_37 : ri (rt_P sc fm) 342 37 (.iload 4) (39) := ri_of (by decide +kernel) rfl
theorem wi_342_39 : ri (rt_P sc fm) 342 39 (.iconst 2) (40) := ri_of (by decide +kernel) rfl
theorem wi_342_4 : ri (rt_P sc fm) 342 4 (.iload_n 1) (5) := ri_of (by decide +kernel) rfl
theorem wi_342_40 : ri (rt_P sc fm) 342 40 (.if_icmp .ne 12) (43) := ri_of (by decide +kernel) rfl
theorem wi_342_43 : ri (rt_P sc fm) 342 43 (.aload_n 0) (44) := ri_of (by decide +kernel) rfl
theorem wi_342_44 : ri (rt_P sc fm) 342 44 (.lload 5) (46) := ri_of (by decide +kernel) rfl
theorem wi_342_46 : ri (rt_P sc fm) 342 46 (.invokevirtual 47) (49) := ri_of (by decide +kernel) rfl
theorem wi_342_49 : ri (rt_P sc fm) 342 49 (.iload 4) (51) := ri_of (by decide +kernel) rfl
theorem wi_342_5 : ri (rt_P sc fm) 342 5 (.aload_n 2) (6) := ri_of (by decide +kernel) rfl
theorem wi_342_51 : ri (rt_P sc fm) 342 51 (.ireturn) (52) := ri_of (by decide +kernel) rfl
theorem wi_342_52 : ri (rt_P sc fm) 342 52 (.lload 5) (54) := ri_of (by decide +kernel) rfl
theorem wi_342_54 : ri (rt_P sc fm) 342 54 (.lconst 0) (55) := ri_of (by decide +kernel) rfl
theorem wi_342_55 : ri (rt_P sc fm) 342 55 (.lcmp) (56) := ri_of (by decide +kernel) rfl
theorem wi_342_56 : ri (rt_P sc fm) 342 56 (.ifCond .ge 9) (59) := ri_of (by decide +kernel) rfl
theorem wi_342_59 : ri (rt_P sc fm) 342 59 (.aload_n 0) (60) := ri_of (by decide +kernel) rfl
theorem wi_342_6 : ri (rt_P sc fm) 342 6 (.iload_n 3) (7) := ri_of (by decide +kernel) rfl
theorem wi_342_60 : ri (rt_P sc fm) 342 60 (.bipush 45) (62) := ri_of (by decide +kernel) rfl
theorem wi_342_62 : ri (rt_P sc fm) 342 62 (.invokevirtual 39) (65) := ri_of (by decide +kernel) rfl
theorem wi_342_65 : ri (rt_P sc fm) 342 65 (.aload_n 0) (66) := ri_of (by decide +kernel) rfl
theorem wi_342_66 : ri (rt_P sc fm) 342 66 (.lload 5) (68) := ri_of (by decide +kernel) rfl
theorem wi_342_68 : ri (rt_P sc fm) 342 68 (.lconst 0) (69) := ri_of (by decide +kernel) rfl
theorem wi_342_69 : ri (rt_P sc fm) 342 69 (.lcmp) (70) := ri_of (by decide +kernel) rfl
theorem wi_342_7 : ri (rt_P sc fm) 342 7 (.invokevirtual 234) (10) := ri_of (by decide +kernel) rfl
theorem wi_342_70 : ri (rt_P sc fm) 342 70 (.ifCond .ge 9) (73) := ri_of (by decide +kernel) rfl
theorem wi_342_73 : ri (rt_P sc fm) 342 73 (.lload 5) (75) := ri_of (by decide +kernel) rfl
theorem wi_342_75 : ri (rt_P sc fm) 342 75 (.lneg) (76) := ri_of (by decide +kernel) rfl
theorem wi_342_76 : ri (rt_P sc fm) 342 76 (.goto 5) (79) := ri_of (by decide +kernel) rfl
theorem wi_342_79 : ri (rt_P sc fm) 342 79 (.lload 5) (81) := ri_of (by decide +kernel) rfl
theorem wi_342_81 : ri (rt_P sc fm) 342 81 (.invokevirtual 58) (84) := ri_of (by decide +kernel) rfl
theorem wi_342_84 : ri (rt_P sc fm) 342 84 (.iload 4) (86) := ri_of (by decide +kernel) rfl
theorem wi_342_86 : ri (rt_P sc fm) 342 86 (.ireturn) (87) := ri_of (by decide +kernel) rfl
theorem wp_342_35 : rx_pt (rt_P sc fm) 342 35 = some (12, 1, .int) := (by decide +kernel : rt_pt 342 35 = some (12, 1, .int))
theorem wr_342 : rx_rt (rt_P sc fm) 342 = (some FieldType.int) := (by decide +kernel : rt_rt 342 = (some FieldType.int))
/-- MarkHouse$Teller.writeMember(ILMarkHouse$Kind;I)I -/
def d_342 (n : Nat) (a1 : Int32) (k2 : Nat) (a3 : Int32) (c : cS) : Option (Int32 × cS) :=
  Option.bind (d_232 n a1 k2 a3 c) (fun v1 =>
  if 0 ≤ v1 then
    Option.bind (d_233 n a1 k2 a3 c) (fun v3 =>
    lt (pI c 172 1 0) (fun c5 =>
    if v1 = 2 then
      Option.bind (d_318 n v3 c5) (fun r11 =>
      some (v1, r11))
    else
      jn (fun p7 : cS =>
        jn (fun p8 : Int64 =>
          Option.bind (d_319 n p8 p7) (fun r9 =>
          some (v1, r9)))
        (fun j81 =>
        if 0 ≤ (lg_cmp v3 0) then
          j81 v3
        else
          j81 (-v3)))
      (fun j65 =>
      if 0 ≤ (lg_cmp v3 0) then
        j65 c5
      else
        Option.bind (d_317 n 45 c5) (fun r10 =>
        j65 r10))))
  else
    some (v1, c))
theorem sp_342 {F Lo n : Nat} {a1 : Int32} {k2 : Nat} {a3 : Int32} {c y : cS} {w : cW} {K : Int32 × cS → Prop} {Q : ((Option Value) ⊕ String) → List va_E → Prop} (hw : rOK fm w) (hF : 2 ≤ F) (hLo : 48 ≤ Lo) (hk2 : k2 < 12) (h : wp (d_342 n a1 k2 a3 c) K) (hQ : ∀ r, K r → Q (.inl (some (.int r.1))) (hq true r.2 y w)) : rs (rt_P sc fm) 342 F Lo 0 [(0, .ref 172), (1, .int a1), (2, .ref (kA k2)), (3, .int a3)] [] (hq true c y w) Q := by
  unfold d_342 at h
  obtain ⟨lv, elv⟩ : ∃ lv : rx_L, lv = [(0, .ref 172), (1, .int a1), (2, .ref (kA k2)), (3, .int a3)] := ⟨_, rfl⟩
  rw [← elv]
  have l0 : rx_ld lv 0 = some (.ref 172) := by rw [elv]; rfl
  have l1 : rx_ld lv 1 = some (.int a1) := by rw [elv]; rfl
  have l2 : rx_ld lv 2 = some (.ref (kA k2)) := by rw [elv]; rfl
  have l3 : rx_ld lv 3 = some (.int a3) := by rw [elv]; rfl
  refine rs_aldn wi_342_0 l0 ?_
  refine dq_gr wi_342_1 wf_342_27 tf_172_5 ?_
  refine rs_ildn wi_342_4 l1 ?_
  refine rs_aldn wi_342_5 l2 ?_
  refine rs_ildn wi_342_6 l3 ?_
  refine rs_V wi_342_7 wc_342_234 rfl (dq_isa tf_133_0 wa_7_232) (Nat.le_trans (by decide) hF) (ml_le wm_232 (Nat.le_trans (by decide) hLo)) rfl (sp_232 hw (Nat.le_trans (by decide : 1 ≤ 2 - 1) (Nat.sub_le_sub_right hF 1)) (ml_sub wm_232 (Nat.le_trans (by decide : 24 ≤ 48 - 24) (Nat.sub_le_sub_right hLo 24))) hk2 (wp_bind h) (fun v1 h => rs_back1 ?_))
  refine dl_ist wi_342_10 rfl (fun lv l4 t2 => ?_)
  have l0 := t2 _ _ (by decide) (Or.inl rfl) l0
  have l1 := t2 _ _ (by decide) (Or.inl rfl) l1
  have l2 := t2 _ _ (by decide) (Or.inl rfl) l2
  have l3 := t2 _ _ (by decide) (Or.inl rfl) l3
  refine rs_ild wi_342_12 l4 ?_
  refine rs_ifge (tg := 20) wi_342_14 ⟨by decide, by decide⟩ (fun q => ?_) (fun q => ?_)
  ·
    have h := wp_pos h q
    refine rs_aldn wi_342_20 l0 ?_
    refine dq_gr wi_342_21 wf_342_27 tf_172_5 ?_
    refine rs_ildn wi_342_24 l1 ?_
    refine rs_aldn wi_342_25 l2 ?_
    refine rs_ildn wi_342_26 l3 ?_
    refine rs_V wi_342_27 wc_342_244 rfl (dq_isa tf_133_0 wa_7_233) (Nat.le_trans (by decide) hF) (ml_le wm_233 (Nat.le_trans (by decide) hLo)) rfl (sp_233 hw (Nat.le_trans (by decide : 1 ≤ 2 - 1) (Nat.sub_le_sub_right hF 1)) (ml_sub wm_233 (Nat.le_trans (by decide : 24 ≤ 48 - 24) (Nat.sub_le_sub_right hLo 24))) hk2 (wp_bind h) (fun v3 h => rs_back1 ?_))
    refine dl_lst wi_342_30 rfl (fun lv l5 t4 => ?_)
    have l0 := t4 _ _ (by decide) (by decide) (Or.inl rfl) l0
    have l4 := t4 _ _ (by decide) (by decide) (Or.inl rfl) l4
    refine rs_aldn wi_342_32 l0 ?_
    refine rs_pure wi_342_33 rfl ?_
    refine rs_topi (v := 0) (by decide) ?_
    obtain ⟨c5, e6, h⟩ := wp_lt h
    refine dq_pi wi_342_34 wp_342_35 tf_172_1 rfl rfl e6 ?_
    refine rs_ild wi_342_37 l4 ?_
    refine rs_pure wi_342_39 rfl ?_
    refine rs_topi (v := 2) (by decide) ?_
    refine rs_icne (tg := 52) wi_342_40 ⟨by decide, by decide⟩ (fun q => ?_) (fun q => ?_)
    ·
      have h := wp_neg h q
      refine rs_lld wi_342_52 l5 ?_
      refine rs_pure wi_342_54 rfl ?_
      refine rs_topl (v := 0) (by decide) ?_
      refine rs_pure wi_342_55 rfl ?_
      refine wp_jn (B := fun p7 : cS => ∀ lv, rx_ld lv 0 = some (.ref 172) → rx_ld lv 4 = some (.int v1) → rx_ld lv 5 = some (.long v3) → rs (rt_P sc fm) 342 F Lo 65 lv [] (hq true p7 y w) Q) h (fun p7 h lv l0 l4 l5 => ?_) (fun j65 hj65 h => ?_)
      ·
        refine rs_aldn wi_342_65 l0 ?_
        refine rs_lld wi_342_66 l5 ?_
        refine rs_pure wi_342_68 rfl ?_
        refine rs_topl (v := 0) (by decide) ?_
        refine rs_pure wi_342_69 rfl ?_
        refine wp_jn (B := fun p8 : Int64 => ∀ lv, rx_ld lv 4 = some (.int v1) → rs (rt_P sc fm) 342 F Lo 81 lv [.long p8, .ref 172] (hq true p7 y w) Q) h (fun p8 h lv l4 => ?_) (fun j81 hj81 h => ?_)
        ·
          refine rs_V wi_342_81 wc_342_58 rfl (dq_isa tf_172_0 wa_12_319) (Nat.le_trans (by decide) hF) (ml_le wm_319 (Nat.le_trans (by decide) hLo)) rfl (sp_319 hw (Nat.le_trans (by decide : 1 ≤ 2 - 1) (Nat.sub_le_sub_right hF 1)) (ml_sub wm_319 (Nat.le_trans (by decide : 21 ≤ 48 - 26) (Nat.sub_le_sub_right hLo 26))) (wp_bind h) (fun r9 h => rs_back0 ?_))
          refine rs_ild wi_342_84 l4 ?_
          exact rs_iret wi_342_86 wr_342 rfl (hQ (v1, r9) h)
        refine rs_ifge (tg := 79) wi_342_70 ⟨by decide, by decide⟩ (fun q => ?_) (fun q => ?_)
        ·
          have h := wp_pos h q
          refine rs_lld wi_342_79 l5 ?_
          exact hj81 _ h _ l4
        ·
          have h := wp_neg h q
          refine rs_lld wi_342_73 l5 ?_
          refine rs_pure wi_342_75 rfl ?_
          refine rs_goto (tg := 81) wi_342_76 ⟨by decide, by decide⟩ ?_
          exact hj81 _ h _ l4
      refine rs_ifge (tg := 65) wi_342_56 ⟨by decide, by decide⟩ (fun q => ?_) (fun q => ?_)
      ·
        have h := wp_pos h q
        exact hj65 _ h _ l0 l4 l5
      ·
        have h := wp_neg h q
        refine rs_aldn wi_342_59 l0 ?_
        refine rs_pure wi_342_60 rfl ?_
        refine rs_topi (v := 45) (by decide) ?_
        refine rs_V wi_342_62 wc_342_39 rfl (dq_isa tf_172_0 wa_12_317) (Nat.le_trans (by decide) hF) (ml_le wm_317 (Nat.le_trans (by decide) hLo)) rfl (sp_317 hw (Nat.le_trans (by decide : 0 ≤ 2 - 1) (Nat.sub_le_sub_right hF 1)) (ml_sub wm_317 (Nat.le_trans (by decide : 0 ≤ 48 - 21) (Nat.sub_le_sub_right hLo 21))) (wp_bind h) (fun r10 h => rs_back0 ?_))
        exact hj65 _ h _ l0 l4 l5
    ·
      have h := wp_pos h q
      refine rs_aldn wi_342_43 l0 ?_
      refine rs_lld wi_342_44 l5 ?_
      refine rs_V wi_342_46 wc_342_47 rfl (dq_isa tf_172_0 wa_12_318) (Nat.le_trans (by decide) hF) (ml_le wm_318 (Nat.le_trans (by decide) hLo)) rfl (sp_318 hw (Nat.le_trans (by decide : 1 ≤ 2 - 1) (Nat.sub_le_sub_right hF 1)) (ml_sub wm_318 (Nat.le_trans (by decide : 21 ≤ 48 - 24) (Nat.sub_le_sub_right hLo 24))) (wp_bind h) (fun r11 h => rs_back0 ?_))
      refine rs_ild wi_342_49 l4 ?_
      exact rs_iret wi_342_51 wr_342 rfl (hQ (v1, r11) h)
  ·
    have h := wp_neg h q
    refine rs_ild wi_342_17 l4 ?_
    exact rs_iret wi_342_19 wr_342 rfl (hQ (v1, c) h)
theorem wa_12_341 : rz_cn 12 (rx_yn (rt_P sc fm) 341).cls = true := (by decide +kernel : rz_cn 12 (rt_yn 341).cls = true)
theorem wa_12_342 : rz_cn 12 (rx_yn (rt_P sc fm) 342).cls = true := (by decide +kernel : rz_cn 12 (rt_yn 342).cls = true)
theorem wa_4_185 : rz_cn 4 (rx_yn (rt_P sc fm) 185).cls = true := (by decide +kernel : rz_cn 4 (rt_yn 185).cls = true)
theorem wc_69_230 : rx_ct (rt_P sc fm) 69 230 = some (0, 70, 2) := (by decide +kernel : rt_ct 69 230 = some (0, 70, 2))
theorem wc_69_233 : rx_ct (rt_P sc fm) 69 233 = some (0, 180, 2) := (by decide +kernel : rt_ct 69 233 = some (0, 180, 2))
theorem wc_69_248 : rx_ct (rt_P sc fm) 69 248 = some (0, 185, 2) := (by decide +kernel : rt_ct 69 248 = some (0, 185, 2))
theorem wc_69_251 : rx_ct (rt_P sc fm) 69 251 = some (0, 341, 2) := (by decide +kernel : rt_ct 69 251 = some (0, 341, 2))
theorem wc_69_262 : rx_ct (rt_P sc fm) 69 262 = some (0, 342, 3) := (by decide +kernel : rt_ct 69 262 = some (0, 342, 3))
theorem wf_69_174 : rx_ft (rt_P sc fm) 69 174 = some (9, 1) := (by decide +kernel : rt_ft 69 174 = some (9, 1))
theorem wf_69_19 : rx_ft (rt_P sc fm) 69 19 = some (14, 1) := (by decide +kernel : rt_ft 69 19 = some (14, 1))
theorem wf_69_255 : rx_ft (rt_P sc fm) 69 255 = some (9, 3) := (by decide +kernel : rt_ft 69 255 = some (9, 3))
theorem wf_69_259 : rx_ft (rt_P sc fm) 69 259 = some (6, 1) := (by decide +kernel : rt_ft 69 259 = some (6, 1))
theorem wf_69_53 : rx_ft (rt_P sc fm) 69 53 = some (14, 5) := (by decide +kernel : rt_ft 69 53 = some (14, 5))
theorem wf_69_91 : rx_ft (rt_P sc fm) 69 91 = some (14, 9) := (by decide +kernel : rt_ft 69 91 = some (14, 9))
theorem wi_69_0 : ri (rt_P sc fm) 69 0 (.aload_n 0) (1) := ri_of (by decide +kernel) rfl
theorem wi_69_1 : ri (rt_P sc fm) 69 1 (.iload_n 1) (2) := ri_of (by decide +kernel) rfl
theorem wi_69_10 : ri (rt_P sc fm) 69 10 (.ifCond .lt 16) (13) := ri_of (by decide +kernel) rfl
theorem wi_69_102 : ri (rt_P sc fm) 69 102 (.aload_n 0) (103) := ri_of (by decide +kernel) rfl
theorem wi_69_103 : ri (rt_P sc fm) 69 103 (.getfield 91) (106) := ri_of (by decide +kernel) rfl
theorem wi_69_106 : ri (rt_P sc fm) 69 106 (.iload 5) (108) := ri_of (by decide +kernel) rfl
theorem wi_69_108 : ri (rt_P sc fm) 69 108 (.aload 6) (110) := ri_of (by decide +kernel) rfl
theorem wi_69_110 : ri (rt_P sc fm) 69 110 (.iload 4) (112) := ri_of (by decide +kernel) rfl
theorem wi_69_112 : ri (rt_P sc fm) 69 112 (.invokevirtual 262) (115) := ri_of (by decide +kernel) rfl
theorem wi_69_115 : ri (rt_P sc fm) 69 115 (.goto 4) (118) := ri_of (by decide +kernel) rfl
theorem wi_69_118 : ri (rt_P sc fm) 69 118 (.iconst (-1)) (119) := ri_of (by decide +kernel) rfl
theorem wi_69_119 : ri (rt_P sc fm) 69 119 (.ireturn) (120) := ri_of (by decide +kernel) rfl
theorem wi_69_13 : ri (rt_P sc fm) 69 13 (.iload_n 3) (14) := ri_of (by decide +kernel) rfl
theorem wi_69_14 : ri (rt_P sc fm) 69 14 (.aload_n 0) (15) := ri_of (by decide +kernel) rfl
theorem wi_69_15 : ri (rt_P sc fm) 69 15 (.getfield 53) (18) := ri_of (by decide +kernel) rfl
theorem wi_69_18 : ri (rt_P sc fm) 69 18 (.iload_n 1) (19) := ri_of (by decide +kernel) rfl
theorem wi_69_19 : ri (rt_P sc fm) 69 19 (.iload_n 2) (20) := ri_of (by decide +kernel) rfl
theorem wi_69_2 : ri (rt_P sc fm) 69 2 (.iload_n 2) (3) := ri_of (by decide +kernel) rfl
theorem wi_69_20 : ri (rt_P sc fm) 69 20 (.invokevirtual 233) (23) := ri_of (by decide +kernel) rfl
theorem wi_69_23 : ri (rt_P sc fm) 69 23 (.if_icmp .lt 5) (26) := ri_of (by decide +kernel) rfl
theorem wi_69_26 : ri (rt_P sc fm) 69 26 (.iconst (-1)) (27) := ri_of (by decide +kernel) rfl
theorem wi_69_27 : ri (rt_P sc fm) 69 27 (.ireturn) (28) := ri_of (by decide +kernel) rfl
theorem wi_69_28 : ri (rt_P sc fm) 69 28 (.aload_n 0) (29) := ri_of (by decide +kernel) rfl
theorem wi_69_29 : ri (rt_P sc fm) 69 29 (.getfield 53) (32) := ri_of (by decide +kernel) rfl
theorem wi_69_3 : ri (rt_P sc fm) 69 3 (.invokevirtual 230) (6) := ri_of (by decide +kernel) rfl
theorem wi_69_32 : ri (rt_P sc fm) 69 32 (.iload_n 2) (33) := ri_of (by decide +kernel) rfl
theorem wi_69_33 : ri (rt_P sc fm) 69 33 (.iload_n 3) (34) := ri_of (by decide +kernel) rfl
theorem wi_69_34 : ri (rt_P sc fm) 69 34 (.invokevirtual 248) (37) := ri_of (by decide +kernel) rfl
theorem wi_69_37 : ri (rt_P sc fm) 69 37 (.istore 5) (39) := ri_of (by decide +kernel) rfl
theorem wi_69_39 : ri (rt_P sc fm) 69 39 (.iload_n 2) (40) := ri_of (by decide +kernel) rfl
theorem wi_69_40 : ri (rt_P sc fm) 69 40 (.bipush 100) (42) := ri_of (by decide +kernel) rfl
theorem wi_69_42 : ri (rt_P sc fm) 69 42 (.if_icmp .lt 34) (45) := ri_of (by decide +kernel) rfl
theorem wi_69_45 : ri (rt_P sc fm) 69 45 (.iload 4) (47) := ri_of (by decide +kernel) rfl
theorem wi_69_47 : ri (rt_P sc fm) 69 47 (.ifCond .ne 27) (50) := ri_of (by decide +kernel) rfl
theorem wi_69_50 : ri (rt_P sc fm) 69 50 (.aload_n 0) (51) := ri_of (by decide +kernel) rfl
theorem wi_69_51 : ri (rt_P sc fm) 69 51 (.getfield 91) (54) := ri_of (by decide +kernel) rfl
theorem wi_69_54 : ri (rt_P sc fm) 69 54 (.iload 5) (56) := ri_of (by decide +kernel) rfl
theorem wi_69_56 : ri (rt_P sc fm) 69 56 (.aload_n 0) (57) := ri_of (by decide +kernel) rfl
theorem wi_69_57 : ri (rt_P sc fm) 69 57 (.getfield 19) (60) := ri_of (by decide +kernel) rfl
theorem wi_69_6 : ri (rt_P sc fm) 69 6 (.ifCond .eq 20) (9) := ri_of (by decide +kernel) rfl
theorem wi_69_60 : ri (rt_P sc fm) 69 60 (.getfield 174) (63) := ri_of (by decide +kernel) rfl
theorem wi_69_63 : ri (rt_P sc fm) 69 63 (.iload_n 2) (64) := ri_of (by decide +kernel) rfl
theorem wi_69_64 : ri (rt_P sc fm) 69 64 (.bipush 100) (66) := ri_of (by decide +kernel) rfl
theorem wi_69_66 : ri (rt_P sc fm) 69 66 (.isub) (67) := ri_of (by decide +kernel) rfl
theorem wi_69_67 : ri (rt_P sc fm) 69 67 (.aaload) (68) := ri_of (by decide +kernel) rfl
theorem wi_69_68 : ri (rt_P sc fm) 69 68 (.invokevirtual 251) (71) := ri_of (by decide +kernel) rfl
theorem wi_69_71 : ri (rt_P sc fm) 69 71 (.goto 4) (74) := ri_of (by decide +kernel) rfl
theorem wi_69_74 : ri (rt_P sc fm) 69 74 (.iconst (-1)) (75) := ri_of (by decide +kernel) rfl
theorem wi_69_75 : ri (rt_P sc fm) 69 75 (.ireturn) (76) := ri_of (by decide +kernel) rfl
theorem wi_69_76 : ri (rt_P sc fm) 69 76 (.aload_n 0) (77) := ri_of (by decide +kernel) rfl
theorem wi_69_77 : ri (rt_P sc fm) 69 77 (.getfield 19) (80) := ri_of (by decide +kernel) rfl
theorem wi_69_80 : ri (rt_P sc fm) 69 80 (.getfield 255) (83) := ri_of (by decide +kernel) rfl
theorem wi_69_83 : ri (rt_P sc fm) 69 83 (.iload_n 2) (84) := ri_of (by decide +kernel) rfl
theorem wi_69_84 : ri (rt_P sc fm) 69 84 (.aaload) (85) := ri_of (by decide +kernel) rfl
theorem wi_69_85 : ri (rt_P sc fm) 69 85 (.astore 6) (87) := ri_of (by decide +kernel) rfl
theorem wi_69_87 : ri (rt_P sc fm) 69 87 (.iload 4) (89) := ri_of (by decide +kernel) rfl
theorem wi_69_89 : ri (rt_P sc fm) 69 89 (.ifCond .lt 29) (92) := ri_of (by decide +kernel) rfl
theorem wi_69_9 : ri (rt_P sc fm) 69 9 (.iload_n 3) (10) := ri_of (by decide +kernel) rfl
theorem wi_69_92 : ri (rt_P sc fm) 69 92 (.iload 4) (94) := ri_of (by decide +kernel) rfl
theorem wi_69_94 : ri (rt_P sc fm) 69 94 (.aload 6) (96) := ri_of (by decide +kernel) rfl
theorem wi_69_96 : ri (rt_P sc fm) 69 96 (.getfield 259) (99) := ri_of (by decide +kernel) rfl
theorem wi_69_99 : ri (rt_P sc fm) 69 99 (.if_icmp .ge 19) (102) := ri_of (by decide +kernel) rfl
theorem wm_185 : rx_ml (rt_P sc fm) 185 = 6 := (by decide +kernel : rt_ml 185 = 6)
theorem wm_341 : rx_ml (rt_P sc fm) 341 = 4 := (by decide +kernel : rt_ml 341 = 4)
theorem wm_342 : rx_ml (rt_P sc fm) 342 = 7 := (by decide +kernel : rt_ml 342 = 7)
theorem wr_69 : rx_rt (rt_P sc fm) 69 = (some FieldType.int) := (by decide +kernel : rt_rt 69 = (some FieldType.int))
/-- MarkHouse.ask(IIII)I -/
def d_69 (n : Nat) (a1 : Int32) (a2 : Int32) (a3 : Int32) (a4 : Int32) (c : cS) : Option (Int32 × cS) :=
  Option.bind (d_70 n a1 a2 c) (fun v1 =>
  jn (fun p2 : cS =>
    some ((-1), p2))
  (fun j26 =>
  if v1 = 0 then
    j26 c
  else
    if a3 < 0 then
      j26 c
    else
      Option.bind (d_180 n a1 a2 c) (fun r3 =>
      if a3 < r3.1 then
        Option.bind (d_185 n a2 a3 r3.2) (fun v4 =>
        if a2 < 100 then
          if ib a2 12 then
          jn (fun p8 : Int32 × cS =>
            some (p8.1, p8.2))
          (fun j119 =>
          jn (fun p9 : Unit =>
            j119 ((-1), r3.2))
          (fun j118 =>
          if a4 < 0 then
            j118 ()
          else
            if (r3.2.1 (kA (ix a2)) 1) ≤ a4 then
              j118 ()
            else
              Option.bind (d_342 n v4 (ix a2) a4 r3.2) (fun r10 =>
              j119 (r10.1, r10.2))))
          else none
        else
          jn (fun p11 : Int32 × cS =>
            some (p11.1, p11.2))
          (fun j75 =>
          if a4 = 0 then
            if ib (a2 - 100) 4 then
            Option.bind (d_341 n v4 (ix (a2 - 100)) r3.2) (fun r13 =>
            j75 (r13.1, r13.2))
            else none
          else
            j75 ((-1), r3.2)))
      else
        j26 r3.2)))
theorem sp_69 {F Lo n : Nat} {a1 : Int32} {a2 : Int32} {a3 : Int32} {a4 : Int32} {c y : cS} {w : cW} {K : Int32 × cS → Prop} {Q : ((Option Value) ⊕ String) → List va_E → Prop} (hw : rOK fm w) (hF : 7 ≤ F) (hLo : 154 ≤ Lo)  (h : wp (d_69 n a1 a2 a3 a4 c) K) (hQ : ∀ r, K r → Q (.inl (some (.int r.1))) (hq true r.2 y w)) : rs (rt_P sc fm) 69 F Lo 0 [(0, .ref 0), (1, .int a1), (2, .int a2), (3, .int a3), (4, .int a4)] [] (hq true c y w) Q := by
  unfold d_69 at h
  obtain ⟨lv, elv⟩ : ∃ lv : rx_L, lv = [(0, .ref 0), (1, .int a1), (2, .int a2), (3, .int a3), (4, .int a4)] := ⟨_, rfl⟩
  rw [← elv]
  have l0 : rx_ld lv 0 = some (.ref 0) := by rw [elv]; rfl
  have l1 : rx_ld lv 1 = some (.int a1) := by rw [elv]; rfl
  have l2 : rx_ld lv 2 = some (.int a2) := by rw [elv]; rfl
  have l3 : rx_ld lv 3 = some (.int a3) := by rw [elv]; rfl
  have l4 : rx_ld lv 4 = some (.int a4) := by rw [elv]; rfl
  refine rs_aldn wi_69_0 l0 ?_
  refine rs_ildn wi_69_1 l1 ?_
  refine rs_ildn wi_69_2 l2 ?_
  refine rs_V wi_69_3 wc_69_230 rfl (dq_isa tf_0_0 wa_14_70) (Nat.le_trans (by decide) hF) (ml_le wm_70 (Nat.le_trans (by decide) hLo)) rfl (sp_70 hw (Nat.le_trans (by decide : 2 ≤ 7 - 1) (Nat.sub_le_sub_right hF 1)) (ml_sub wm_70 (Nat.le_trans (by decide : 44 ≤ 154 - 22) (Nat.sub_le_sub_right hLo 22))) (wp_bind h) (fun v1 h => rs_back1 ?_))
  refine wp_jn (B := fun p2 : cS => ∀ lv, rs (rt_P sc fm) 69 F Lo 26 lv [] (hq true p2 y w) Q) h (fun p2 h lv => ?_) (fun j26 hj26 h => ?_)
  ·
    refine rs_pure wi_69_26 rfl ?_
    refine rs_topi (v := (-1)) (by decide) ?_
    exact rs_iret wi_69_27 wr_69 rfl (hQ ((-1), p2) h)
  refine rs_ifeq (tg := 26) wi_69_6 ⟨by decide, by decide⟩ (fun q => ?_) (fun q => ?_)
  ·
    have h := wp_pos h q
    exact hj26 _ h _
  ·
    have h := wp_neg h q
    refine rs_ildn wi_69_9 l3 ?_
    refine rs_iflt (tg := 26) wi_69_10 ⟨by decide, by decide⟩ (fun q => ?_) (fun q => ?_)
    ·
      have h := wp_pos h q
      exact hj26 _ h _
    ·
      have h := wp_neg h q
      refine rs_ildn wi_69_13 l3 ?_
      refine rs_aldn wi_69_14 l0 ?_
      refine dq_gr wi_69_15 wf_69_53 tf_0_5 ?_
      refine rs_ildn wi_69_18 l1 ?_
      refine rs_ildn wi_69_19 l2 ?_
      refine rs_V wi_69_20 wc_69_233 rfl (dq_isa tf_146_0 wa_4_180) (Nat.le_trans (by decide) hF) (ml_le wm_180 (Nat.le_trans (by decide) hLo)) rfl (sp_180 hw (Nat.le_trans (by decide : 3 ≤ 7 - 1) (Nat.sub_le_sub_right hF 1)) (ml_sub wm_180 (Nat.le_trans (by decide : 75 ≤ 154 - 25) (Nat.sub_le_sub_right hLo 25))) (wp_bind h) (fun r3 h => rs_back1 ?_))
      refine rs_iclt (tg := 28) wi_69_23 ⟨by decide, by decide⟩ (fun q => ?_) (fun q => ?_)
      ·
        have h := wp_pos h q
        refine rs_aldn wi_69_28 l0 ?_
        refine dq_gr wi_69_29 wf_69_53 tf_0_5 ?_
        refine rs_ildn wi_69_32 l2 ?_
        refine rs_ildn wi_69_33 l3 ?_
        refine rs_V wi_69_34 wc_69_248 rfl (dq_isa tf_146_0 wa_4_185) (Nat.le_trans (by decide) hF) (ml_le wm_185 (Nat.le_trans (by decide) hLo)) rfl (sp_185 hw (Nat.le_trans (by decide : 1 ≤ 7 - 1) (Nat.sub_le_sub_right hF 1)) (ml_sub wm_185 (Nat.le_trans (by decide : 21 ≤ 154 - 25) (Nat.sub_le_sub_right hLo 25))) (wp_bind h) (fun v4 h => rs_back1 ?_))
        refine dl_ist wi_69_37 rfl (fun lv l5 t5 => ?_)
        have l0 := t5 _ _ (by decide) (Or.inl rfl) l0
        have l2 := t5 _ _ (by decide) (Or.inl rfl) l2
        have l4 := t5 _ _ (by decide) (Or.inl rfl) l4
        refine rs_ildn wi_69_39 l2 ?_
        refine rs_pure wi_69_40 rfl ?_
        refine rs_topi (v := 100) (by decide) ?_
        refine rs_iclt (tg := 76) wi_69_42 ⟨by decide, by decide⟩ (fun q => ?_) (fun q => ?_)
        ·
          have h := wp_pos h q
          refine rs_aldn wi_69_76 l0 ?_
          refine dq_gr wi_69_77 wf_69_19 tf_0_1 ?_
          refine dq_gr wi_69_80 wf_69_255 tf_7_3 ?_
          refine rs_ildn wi_69_83 l2 ?_
          obtain ⟨g6, h⟩ := wp_gd h
          refine dq_aald wi_69_84 (by decide) t_9 g6 (hw.2.1 _ (ib_lt g6)) ?_
          refine dl_ast wi_69_85 rfl (fun lv l6 t7 => ?_)
          have l0 := t7 _ _ (by decide) (Or.inl rfl) l0
          have l4 := t7 _ _ (by decide) (Or.inl rfl) l4
          have l5 := t7 _ _ (by decide) (Or.inl rfl) l5
          refine rs_ild wi_69_87 l4 ?_
          refine wp_jn (B := fun p8 : Int32 × cS => ∀ lv, rs (rt_P sc fm) 69 F Lo 119 lv [.int p8.1] (hq true p8.2 y w) Q) h (fun p8 h lv => ?_) (fun j119 hj119 h => ?_)
          ·
            exact rs_iret wi_69_119 wr_69 rfl (hQ (p8.1, p8.2) h)
          refine wp_jn (B := fun p9 : Unit => ∀ lv, rs (rt_P sc fm) 69 F Lo 118 lv [] (hq true r3.2 y w) Q) h (fun p9 h lv => ?_) (fun j118 hj118 h => ?_)
          ·
            refine rs_pure wi_69_118 rfl ?_
            refine rs_topi (v := (-1)) (by decide) ?_
            exact hj119 _ h _
          refine rs_iflt (tg := 118) wi_69_89 ⟨by decide, by decide⟩ (fun q => ?_) (fun q => ?_)
          ·
            have h := wp_pos h q
            exact hj118 _ h _
          ·
            have h := wp_neg h q
            refine rs_ild wi_69_92 l4 ?_
            refine rs_ald wi_69_94 l6 ?_
            refine dq_gi wi_69_96 wf_69_259 (fK_1 (ib_lt g6)) ?_
            refine rs_icge (tg := 118) wi_69_99 ⟨by decide, by decide⟩ (fun q => ?_) (fun q => ?_)
            ·
              have h := wp_pos h q
              exact hj118 _ h _
            ·
              have h := wp_neg h q
              refine rs_aldn wi_69_102 l0 ?_
              refine dq_gr wi_69_103 wf_69_91 tf_0_9 ?_
              refine rs_ild wi_69_106 l5 ?_
              refine rs_ald wi_69_108 l6 ?_
              refine rs_ild wi_69_110 l4 ?_
              refine rs_V wi_69_112 wc_69_262 rfl (dq_isa tf_172_0 wa_12_342) (Nat.le_trans (by decide) hF) (ml_le wm_342 (Nat.le_trans (by decide) hLo)) rfl (sp_342 hw (Nat.le_trans (by decide : 2 ≤ 7 - 1) (Nat.sub_le_sub_right hF 1)) (ml_sub wm_342 (Nat.le_trans (by decide : 48 ≤ 154 - 26) (Nat.sub_le_sub_right hLo 26))) (ib_lt g6) (wp_bind h) (fun r10 h => rs_back1 ?_))
              refine rs_goto (tg := 119) wi_69_115 ⟨by decide, by decide⟩ ?_
              exact hj119 _ h _
        ·
          have h := wp_neg h q
          refine rs_ild wi_69_45 l4 ?_
          refine wp_jn (B := fun p11 : Int32 × cS => ∀ lv, rs (rt_P sc fm) 69 F Lo 75 lv [.int p11.1] (hq true p11.2 y w) Q) h (fun p11 h lv => ?_) (fun j75 hj75 h => ?_)
          ·
            exact rs_iret wi_69_75 wr_69 rfl (hQ (p11.1, p11.2) h)
          refine rs_ifne (tg := 74) wi_69_47 ⟨by decide, by decide⟩ (fun q => ?_) (fun q => ?_)
          ·
            have h := wp_neg h q
            refine rs_pure wi_69_74 rfl ?_
            refine rs_topi (v := (-1)) (by decide) ?_
            exact hj75 _ h _
          ·
            have h := wp_pos h q
            refine rs_aldn wi_69_50 l0 ?_
            refine dq_gr wi_69_51 wf_69_91 tf_0_9 ?_
            refine rs_ild wi_69_54 l5 ?_
            refine rs_aldn wi_69_56 l0 ?_
            refine dq_gr wi_69_57 wf_69_19 tf_0_1 ?_
            refine dq_gr wi_69_60 wf_69_174 tf_7_1 ?_
            refine rs_ildn wi_69_63 l2 ?_
            refine rs_pure wi_69_64 rfl ?_
            refine rs_topi (v := 100) (by decide) ?_
            refine rs_pure wi_69_66 rfl ?_
            obtain ⟨g12, h⟩ := wp_gd h
            refine dq_aald wi_69_67 (by decide) t_8 g12 (hw.1 _ (ib_lt g12)) ?_
            refine rs_V wi_69_68 wc_69_251 rfl (dq_isa tf_172_0 wa_12_341) (Nat.le_trans (by decide) hF) (ml_le wm_341 (Nat.le_trans (by decide) hLo)) rfl (sp_341 hw (Nat.le_trans (by decide : 6 ≤ 7 - 1) (Nat.sub_le_sub_right hF 1)) (ml_sub wm_341 (Nat.le_trans (by decide : 131 ≤ 154 - 23) (Nat.sub_le_sub_right hLo 23))) (ib_lt g12) (wp_bind h) (fun r13 h => rs_back1 ?_))
            refine rs_goto (tg := 75) wi_69_71 ⟨by decide, by decide⟩ ?_
            exact hj75 _ h _
      ·
        have h := wp_neg h q
        exact hj26 _ h _
theorem wc_189_161 : rx_ct (rt_P sc fm) 189 161 = some (0, 231, 2) := (by decide +kernel : rt_ct 189 161 = some (0, 231, 2))
theorem wc_189_178 : rx_ct (rt_P sc fm) 189 178 = some (0, 180, 2) := (by decide +kernel : rt_ct 189 178 = some (0, 180, 2))
theorem wc_189_181 : rx_ct (rt_P sc fm) 189 181 = some (0, 185, 2) := (by decide +kernel : rt_ct 189 181 = some (0, 185, 2))
theorem wf_189_21 : rx_ft (rt_P sc fm) 189 21 = some (4, 0) := (by decide +kernel : rt_ft 189 21 = some (4, 0))
theorem wf_189_29 : rx_ft (rt_P sc fm) 189 29 = some (4, 2) := (by decide +kernel : rt_ft 189 29 = some (4, 2))
theorem wf_189_43 : rx_ft (rt_P sc fm) 189 43 = some (9, 1) := (by decide +kernel : rt_ft 189 43 = some (9, 1))
theorem wf_189_47 : rx_ft (rt_P sc fm) 189 47 = some (8, 2) := (by decide +kernel : rt_ft 189 47 = some (8, 2))
theorem wi_189_0 : ri (rt_P sc fm) 189 0 (.aload_n 0) (1) := ri_of (by decide +kernel) rfl
theorem wi_189_1 : ri (rt_P sc fm) 189 1 (.iload_n 1) (2) := ri_of (by decide +kernel) rfl
theorem wi_189_12 : ri (rt_P sc fm) 189 12 (.iconst (-1)) (13) := ri_of (by decide +kernel) rfl
theorem wi_189_13 : ri (rt_P sc fm) 189 13 (.ireturn) (14) := ri_of (by decide +kernel) rfl
theorem wi_189_14 : ri (rt_P sc fm) 189 14 (.aload_n 0) (15) := ri_of (by decide +kernel) rfl
theorem wi_189_15 : ri (rt_P sc fm) 189 15 (.getfield 21) (18) := ri_of (by decide +kernel) rfl
theorem wi_189_18 : ri (rt_P sc fm) 189 18 (.getfield 43) (21) := ri_of (by decide +kernel) rfl
theorem wi_189_2 : ri (rt_P sc fm) 189 2 (.bipush 100) (4) := ri_of (by decide +kernel) rfl
theorem wi_189_21 : ri (rt_P sc fm) 189 21 (.iload_n 2) (22) := ri_of (by decide +kernel) rfl
theorem wi_189_22 : ri (rt_P sc fm) 189 22 (.aaload) (23) := ri_of (by decide +kernel) rfl
theorem wi_189_23 : ri (rt_P sc fm) 189 23 (.astore_n 3) (24) := ri_of (by decide +kernel) rfl
theorem wi_189_24 : ri (rt_P sc fm) 189 24 (.aload_n 0) (25) := ri_of (by decide +kernel) rfl
theorem wi_189_25 : ri (rt_P sc fm) 189 25 (.getfield 29) (28) := ri_of (by decide +kernel) rfl
theorem wi_189_28 : ri (rt_P sc fm) 189 28 (.aload_n 0) (29) := ri_of (by decide +kernel) rfl
theorem wi_189_29 : ri (rt_P sc fm) 189 29 (.bipush 100) (31) := ri_of (by decide +kernel) rfl
theorem wi_189_31 : ri (rt_P sc fm) 189 31 (.iload_n 2) (32) := ri_of (by decide +kernel) rfl
theorem wi_189_32 : ri (rt_P sc fm) 189 32 (.iadd) (33) := ri_of (by decide +kernel) rfl
theorem wi_189_33 : ri (rt_P sc fm) 189 33 (.iconst 0) (34) := ri_of (by decide +kernel) rfl
theorem wi_189_34 : ri (rt_P sc fm) 189 34 (.invokevirtual 181) (37) := ri_of (by decide +kernel) rfl
theorem wi_189_37 : ri (rt_P sc fm) 189 37 (.aload_n 3) (38) := ri_of (by decide +kernel) rfl
theorem wi_189_38 : ri (rt_P sc fm) 189 38 (.invokevirtual 161) (41) := ri_of (by decide +kernel) rfl
theorem wi_189_4 : ri (rt_P sc fm) 189 4 (.iload_n 2) (5) := ri_of (by decide +kernel) rfl
theorem wi_189_41 : ri (rt_P sc fm) 189 41 (.istore 4) (43) := ri_of (by decide +kernel) rfl
theorem wi_189_43 : ri (rt_P sc fm) 189 43 (.iload 4) (45) := ri_of (by decide +kernel) rfl
theorem wi_189_45 : ri (rt_P sc fm) 189 45 (.ifCond .ge 10) (48) := ri_of (by decide +kernel) rfl
theorem wi_189_48 : ri (rt_P sc fm) 189 48 (.aload_n 3) (49) := ri_of (by decide +kernel) rfl
theorem wi_189_49 : ri (rt_P sc fm) 189 49 (.getfield 47) (52) := ri_of (by decide +kernel) rfl
theorem wi_189_5 : ri (rt_P sc fm) 189 5 (.iadd) (6) := ri_of (by decide +kernel) rfl
theorem wi_189_52 : ri (rt_P sc fm) 189 52 (.goto 5) (55) := ri_of (by decide +kernel) rfl
theorem wi_189_55 : ri (rt_P sc fm) 189 55 (.iload 4) (57) := ri_of (by decide +kernel) rfl
theorem wi_189_57 : ri (rt_P sc fm) 189 57 (.ireturn) (58) := ri_of (by decide +kernel) rfl
theorem wi_189_6 : ri (rt_P sc fm) 189 6 (.invokevirtual 178) (9) := ri_of (by decide +kernel) rfl
theorem wi_189_9 : ri (rt_P sc fm) 189 9 (.ifCond .ne 5) (12) := ri_of (by decide +kernel) rfl
theorem wr_189 : rx_rt (rt_P sc fm) 189 = (some FieldType.int) := (by decide +kernel : rt_rt 189 = (some FieldType.int))
/-- MarkHouse$Effects.elementAt(II)I -/
def d_189 (n : Nat) (a1 : Int32) (a2 : Int32) (c : cS) : Option (Int32 × cS) :=
  Option.bind (d_180 n a1 (100 + a2) c) (fun r1 =>
  if r1.1 = 0 then
    some ((-1), r1.2)
  else
    if ib a2 4 then
    Option.bind (d_185 n (100 + a2) 0 r1.2) (fun v4 =>
    Option.bind (d_231 n v4 (ix a2) r1.2) (fun v5 =>
    jn (fun p7 : Int32 =>
      some (p7, r1.2))
    (fun j57 =>
    if 0 ≤ v5 then
      j57 v5
    else
      j57 (r1.2.1 (oA (ix a2)) 2))))
    else none)
theorem sp_189 {F Lo n : Nat} {a1 : Int32} {a2 : Int32} {c y : cS} {w : cW} {K : Int32 × cS → Prop} {Q : ((Option Value) ⊕ String) → List va_E → Prop} (hw : rOK fm w) (hF : 6 ≤ F) (hLo : 131 ≤ Lo)  (h : wp (d_189 n a1 a2 c) K) (hQ : ∀ r, K r → Q (.inl (some (.int r.1))) (hq true r.2 y w)) : rs (rt_P sc fm) 189 F Lo 0 [(0, .ref 146), (1, .int a1), (2, .int a2)] [] (hq true c y w) Q := by
  unfold d_189 at h
  obtain ⟨lv, elv⟩ : ∃ lv : rx_L, lv = [(0, .ref 146), (1, .int a1), (2, .int a2)] := ⟨_, rfl⟩
  rw [← elv]
  have l0 : rx_ld lv 0 = some (.ref 146) := by rw [elv]; rfl
  have l1 : rx_ld lv 1 = some (.int a1) := by rw [elv]; rfl
  have l2 : rx_ld lv 2 = some (.int a2) := by rw [elv]; rfl
  refine rs_aldn wi_189_0 l0 ?_
  refine rs_ildn wi_189_1 l1 ?_
  refine rs_pure wi_189_2 rfl ?_
  refine rs_topi (v := 100) (by decide) ?_
  refine rs_ildn wi_189_4 l2 ?_
  refine rs_pure wi_189_5 rfl ?_
  refine rs_V wi_189_6 wc_189_178 rfl (dq_isa tf_146_0 wa_4_180) (Nat.le_trans (by decide) hF) (ml_le wm_180 (Nat.le_trans (by decide) hLo)) rfl (sp_180 hw (Nat.le_trans (by decide : 3 ≤ 6 - 1) (Nat.sub_le_sub_right hF 1)) (ml_sub wm_180 (Nat.le_trans (by decide : 75 ≤ 131 - 25) (Nat.sub_le_sub_right hLo 25))) (wp_bind h) (fun r1 h => rs_back1 ?_))
  refine rs_ifne (tg := 14) wi_189_9 ⟨by decide, by decide⟩ (fun q => ?_) (fun q => ?_)
  ·
    have h := wp_neg h q
    refine rs_aldn wi_189_14 l0 ?_
    refine dq_gr wi_189_15 wf_189_21 tf_146_0 ?_
    refine dq_gr wi_189_18 wf_189_43 tf_7_1 ?_
    refine rs_ildn wi_189_21 l2 ?_
    obtain ⟨g2, h⟩ := wp_gd h
    refine dq_aald wi_189_22 (by decide) t_8 g2 (hw.1 _ (ib_lt g2)) ?_
    refine dl_astn wi_189_23 rfl (fun lv l3 t3 => ?_)
    have l0 := t3 _ _ (by decide) (Or.inl rfl) l0
    have l2 := t3 _ _ (by decide) (Or.inl rfl) l2
    refine rs_aldn wi_189_24 l0 ?_
    refine dq_gr wi_189_25 wf_189_29 tf_146_2 ?_
    refine rs_aldn wi_189_28 l0 ?_
    refine rs_pure wi_189_29 rfl ?_
    refine rs_topi (v := 100) (by decide) ?_
    refine rs_ildn wi_189_31 l2 ?_
    refine rs_pure wi_189_32 rfl ?_
    refine rs_pure wi_189_33 rfl ?_
    refine rs_topi (v := 0) (by decide) ?_
    refine rs_V wi_189_34 wc_189_181 rfl (dq_isa tf_146_0 wa_4_185) (Nat.le_trans (by decide) hF) (ml_le wm_185 (Nat.le_trans (by decide) hLo)) rfl (sp_185 hw (Nat.le_trans (by decide : 1 ≤ 6 - 1) (Nat.sub_le_sub_right hF 1)) (ml_sub wm_185 (Nat.le_trans (by decide : 21 ≤ 131 - 25) (Nat.sub_le_sub_right hLo 25))) (wp_bind h) (fun v4 h => rs_back1 ?_))
    refine rs_aldn wi_189_37 l3 ?_
    refine rs_V wi_189_38 wc_189_161 rfl (dq_isa tf_133_0 wa_7_231) (Nat.le_trans (by decide) hF) (ml_le wm_231 (Nat.le_trans (by decide) hLo)) rfl (sp_231 hw (Nat.le_trans (by decide : 5 ≤ 6 - 1) (Nat.sub_le_sub_right hF 1)) (ml_sub wm_231 (Nat.le_trans (by decide : 108 ≤ 131 - 23) (Nat.sub_le_sub_right hLo 23))) (ib_lt g2) (wp_bind h) (fun v5 h => rs_back1 ?_))
    refine dl_ist wi_189_41 rfl (fun lv l4 t6 => ?_)
    have l3 := t6 _ _ (by decide) (Or.inl rfl) l3
    refine rs_ild wi_189_43 l4 ?_
    refine wp_jn (B := fun p7 : Int32 => ∀ lv, rs (rt_P sc fm) 189 F Lo 57 lv [.int p7] (hq true r1.2 y w) Q) h (fun p7 h lv => ?_) (fun j57 hj57 h => ?_)
    ·
      exact rs_iret wi_189_57 wr_189 rfl (hQ (p7, r1.2) h)
    refine rs_ifge (tg := 55) wi_189_45 ⟨by decide, by decide⟩ (fun q => ?_) (fun q => ?_)
    ·
      have h := wp_pos h q
      refine rs_ild wi_189_55 l4 ?_
      exact hj57 _ h _
    ·
      have h := wp_neg h q
      refine rs_aldn wi_189_48 l3 ?_
      refine dq_gi wi_189_49 wf_189_47 (fO_2 (ib_lt g2)) ?_
      refine rs_goto (tg := 57) wi_189_52 ⟨by decide, by decide⟩ ?_
      exact hj57 _ h _
  ·
    have h := wp_pos h q
    refine rs_pure wi_189_12 rfl ?_
    refine rs_topi (v := (-1)) (by decide) ?_
    exact rs_iret wi_189_13 wr_189 rfl (hQ ((-1), r1.2) h)
theorem t_147 : ta true 147 0 4800 := ⟨rfl, by decide, by decide⟩
theorem tf_146_6 : fo true 146 4 6 (.ref 147) := ⟨_, rfl, rfl, by decide, by decide⟩
theorem wa_4_189 : rz_cn 4 (rx_yn (rt_P sc fm) 189).cls = true := (by decide +kernel : rz_cn 4 (rt_yn 189).cls = true)
theorem wc_188_172 : rx_ct (rt_P sc fm) 188 172 = some (0, 21, 1) := (by decide +kernel : rt_ct 188 172 = some (0, 21, 1))
theorem wc_188_175 : rx_ct (rt_P sc fm) 188 175 = some (0, 189, 2) := (by decide +kernel : rt_ct 188 175 = some (0, 189, 2))
theorem wf_188_21 : rx_ft (rt_P sc fm) 188 21 = some (4, 0) := (by decide +kernel : rt_ft 188 21 = some (4, 0))
theorem wf_188_25 : rx_ft (rt_P sc fm) 188 25 = some (4, 1) := (by decide +kernel : rt_ft 188 25 = some (4, 1))
theorem wf_188_33 : rx_ft (rt_P sc fm) 188 33 = some (4, 8) := (by decide +kernel : rt_ft 188 33 = some (4, 8))
theorem wf_188_37 : rx_ft (rt_P sc fm) 188 37 = some (9, 2) := (by decide +kernel : rt_ft 188 37 = some (9, 2))
theorem wf_188_56 : rx_ft (rt_P sc fm) 188 56 = some (9, 10) := (by decide +kernel : rt_ft 188 56 = some (9, 10))
theorem wf_188_9 : rx_ft (rt_P sc fm) 188 9 = some (4, 6) := (by decide +kernel : rt_ft 188 9 = some (4, 6))
theorem wi_188_0 : ri (rt_P sc fm) 188 0 (.iconst 0) (1) := ri_of (by decide +kernel) rfl
theorem wi_188_1 : ri (rt_P sc fm) 188 1 (.istore_n 1) (2) := ri_of (by decide +kernel) rfl
theorem wi_188_10 : ri (rt_P sc fm) 188 10 (.bipush 100) (12) := ri_of (by decide +kernel) rfl
theorem wi_188_12 : ri (rt_P sc fm) 188 12 (.aload_n 0) (13) := ri_of (by decide +kernel) rfl
theorem wi_188_13 : ri (rt_P sc fm) 188 13 (.getfield 21) (16) := ri_of (by decide +kernel) rfl
theorem wi_188_16 : ri (rt_P sc fm) 188 16 (.getfield 56) (19) := ri_of (by decide +kernel) rfl
theorem wi_188_19 : ri (rt_P sc fm) 188 19 (.imul) (20) := ri_of (by decide +kernel) rfl
theorem wi_188_2 : ri (rt_P sc fm) 188 2 (.aload_n 0) (3) := ri_of (by decide +kernel) rfl
theorem wi_188_20 : ri (rt_P sc fm) 188 20 (.if_icmp .ge 55) (23) := ri_of (by decide +kernel) rfl
theorem wi_188_23 : ri (rt_P sc fm) 188 23 (.aload_n 0) (24) := ri_of (by decide +kernel) rfl
theorem wi_188_24 : ri (rt_P sc fm) 188 24 (.getfield 25) (27) := ri_of (by decide +kernel) rfl
theorem wi_188_27 : ri (rt_P sc fm) 188 27 (.iload_n 1) (28) := ri_of (by decide +kernel) rfl
theorem wi_188_28 : ri (rt_P sc fm) 188 28 (.invokevirtual 172) (31) := ri_of (by decide +kernel) rfl
theorem wi_188_3 : ri (rt_P sc fm) 188 3 (.getfield 33) (6) := ri_of (by decide +kernel) rfl
theorem wi_188_31 : ri (rt_P sc fm) 188 31 (.ifCond .le 38) (34) := ri_of (by decide +kernel) rfl
theorem wi_188_34 : ri (rt_P sc fm) 188 34 (.iconst 0) (35) := ri_of (by decide +kernel) rfl
theorem wi_188_35 : ri (rt_P sc fm) 188 35 (.istore_n 2) (36) := ri_of (by decide +kernel) rfl
theorem wi_188_36 : ri (rt_P sc fm) 188 36 (.iload_n 2) (37) := ri_of (by decide +kernel) rfl
theorem wi_188_37 : ri (rt_P sc fm) 188 37 (.aload_n 0) (38) := ri_of (by decide +kernel) rfl
theorem wi_188_38 : ri (rt_P sc fm) 188 38 (.getfield 21) (41) := ri_of (by decide +kernel) rfl
theorem wi_188_41 : ri (rt_P sc fm) 188 41 (.getfield 37) (44) := ri_of (by decide +kernel) rfl
theorem wi_188_44 : ri (rt_P sc fm) 188 44 (.if_icmp .ge 25) (47) := ri_of (by decide +kernel) rfl
theorem wi_188_47 : ri (rt_P sc fm) 188 47 (.aload_n 0) (48) := ri_of (by decide +kernel) rfl
theorem wi_188_48 : ri (rt_P sc fm) 188 48 (.getfield 9) (51) := ri_of (by decide +kernel) rfl
theorem wi_188_51 : ri (rt_P sc fm) 188 51 (.iload_n 1) (52) := ri_of (by decide +kernel) rfl
theorem wi_188_52 : ri (rt_P sc fm) 188 52 (.iconst 4) (53) := ri_of (by decide +kernel) rfl
theorem wi_188_53 : ri (rt_P sc fm) 188 53 (.imul) (54) := ri_of (by decide +kernel) rfl
theorem wi_188_54 : ri (rt_P sc fm) 188 54 (.iload_n 2) (55) := ri_of (by decide +kernel) rfl
theorem wi_188_55 : ri (rt_P sc fm) 188 55 (.iadd) (56) := ri_of (by decide +kernel) rfl
theorem wi_188_56 : ri (rt_P sc fm) 188 56 (.aload_n 0) (57) := ri_of (by decide +kernel) rfl
theorem wi_188_57 : ri (rt_P sc fm) 188 57 (.iload_n 1) (58) := ri_of (by decide +kernel) rfl
theorem wi_188_58 : ri (rt_P sc fm) 188 58 (.iload_n 2) (59) := ri_of (by decide +kernel) rfl
theorem wi_188_59 : ri (rt_P sc fm) 188 59 (.invokevirtual 175) (62) := ri_of (by decide +kernel) rfl
theorem wi_188_6 : ri (rt_P sc fm) 188 6 (.ifCond .eq 69) (9) := ri_of (by decide +kernel) rfl
theorem wi_188_62 : ri (rt_P sc fm) 188 62 (.iastore) (63) := ri_of (by decide +kernel) rfl
theorem wi_188_63 : ri (rt_P sc fm) 188 63 (.iinc 2 1) (66) := ri_of (by decide +kernel) rfl
theorem wi_188_66 : ri (rt_P sc fm) 188 66 (.goto (-30)) (69) := ri_of (by decide +kernel) rfl
theorem wi_188_69 : ri (rt_P sc fm) 188 69 (.iinc 1 1) (72) := ri_of (by decide +kernel) rfl
theorem wi_188_72 : ri (rt_P sc fm) 188 72 (.goto (-70)) (75) := ri_of (by decide +kernel) rfl
theorem wi_188_75 : ri (rt_P sc fm) 188 75 (.aload_n 0) (76) := ri_of (by decide +kernel) rfl
theorem wi_188_76 : ri (rt_P sc fm) 188 76 (.iconst 0) (77) := ri_of (by decide +kernel) rfl
theorem wi_188_77 : ri (rt_P sc fm) 188 77 (.putfield 33) (80) := ri_of (by decide +kernel) rfl
theorem wi_188_80 : ri (rt_P sc fm) 188 80 (.return_) (81) := ri_of (by decide +kernel) rfl
theorem wi_188_9 : ri (rt_P sc fm) 188 9 (.iload_n 1) (10) := ri_of (by decide +kernel) rfl
theorem wm_189 : rx_ml (rt_P sc fm) 189 = 5 := (by decide +kernel : rt_ml 189 = 5)
theorem wp_188_33 : rx_pt (rt_P sc fm) 188 33 = some (4, 8, .boolean) := (by decide +kernel : rt_pt 188 33 = some (4, 8, .boolean))
theorem wr_188 : rx_rt (rt_P sc fm) 188 = none := (by decide +kernel : rt_rt 188 = none)
/-- MarkHouse$Effects.settle()V -/
def d_188 (n : Nat)  (c : cS) : Option (cS) :=
  Option.bind (whl (R := (cS)) (fun s2 : Int32 × cS =>
    if (s2.2.1 146 8) = 0 then
      some (.inr s2.2)
    else
      if (100 * (s2.2.1 7 10)) ≤ s2.1 then
        some (.inr s2.2)
      else
        Option.bind (d_21 n s2.1 s2.2) (fun v3 =>
        jn (fun p4 : cS =>
          lt (s2.1 + 1 : Int32) (fun v6 =>
          some (.inl (v6, p4))))
        (fun j69 =>
        if v3 ≤ 0 then
          j69 s2.2
        else
          Option.bind (whl (R := (cS)) (fun s9 : Int32 × cS =>
            if (s9.2.1 7 2) ≤ s9.1 then
              some (.inr s9.2)
            else
              Option.bind (d_189 n s2.1 s9.1 s9.2) (fun r10 =>
              if ib ((s2.1 * 4) + s9.1) 4800 then
              lt (pI r10.2 147 (ix ((s2.1 * 4) + s9.1)) r10.1) (fun c12 =>
              lt (s9.1 + 1 : Int32) (fun v15 =>
              some (.inl (v15, c12))))
              else none)) n (0, s2.2))
          (fun x17 : cS =>
            j69 x17)))) n (0, c))
  (fun x18 : cS =>
    lt (pI x18 146 8 0) (fun c19 =>
    some c19))
theorem sp_188 {F Lo n : Nat}  {c y : cS} {w : cW} {K : cS → Prop} {Q : ((Option Value) ⊕ String) → List va_E → Prop} (hw : rOK fm w) (hF : 7 ≤ F) (hLo : 155 ≤ Lo)  (h : wp (d_188 n  c) K) (hQ : ∀ r, K r → Q (.inl none) (hq true r y w)) : rs (rt_P sc fm) 188 F Lo 0 [(0, .ref 146)] [] (hq true c y w) Q := by
  unfold d_188 at h
  obtain ⟨lv, elv⟩ : ∃ lv : rx_L, lv = [(0, .ref 146)] := ⟨_, rfl⟩
  rw [← elv]
  have l0 : rx_ld lv 0 = some (.ref 146) := by rw [elv]; rfl
  refine rs_pure wi_188_0 rfl ?_
  refine rs_topi (v := 0) (by decide) ?_
  refine dl_istn wi_188_1 rfl (fun lv l1 t1 => ?_)
  have l0 := t1 _ _ (by decide) (Or.inl rfl) l0
  refine whl_ex (A := fun s2 : Int32 × cS => ∀ lv, rx_ld lv 0 = some (.ref 146) → rx_ld lv 1 = some (.int s2.1) → rs (rt_P sc fm) 188 F Lo 2 lv [] (hq true s2.2 y w) Q) (B := (fun x18 : cS => ∀ lv, rx_ld lv 0 = some (.ref 146) → rs (rt_P sc fm) 188 F Lo 75 lv [] (hq true x18 y w) Q)) ?_ ?_ _ _ (wp_bind h) _ l0 l1
  · intro s2 h lv l0 l1
    refine rs_aldn wi_188_2 l0 ?_
    refine dq_gi wi_188_3 wf_188_33 tf_146_8 ?_
    refine rs_ifeq (tg := 75) wi_188_6 ⟨by decide, by decide⟩ (fun q => ?_) (fun q => ?_)
    ·
      have h := wp_pos h q
      exact h _ l0
    ·
      have h := wp_neg h q
      refine rs_ildn wi_188_9 l1 ?_
      refine rs_pure wi_188_10 rfl ?_
      refine rs_topi (v := 100) (by decide) ?_
      refine rs_aldn wi_188_12 l0 ?_
      refine dq_gr wi_188_13 wf_188_21 tf_146_0 ?_
      refine dq_gi wi_188_16 wf_188_56 tf_7_10 ?_
      refine rs_pure wi_188_19 rfl ?_
      refine rs_icge (tg := 75) wi_188_20 ⟨by decide, by decide⟩ (fun q => ?_) (fun q => ?_)
      ·
        have h := wp_pos h q
        exact h _ l0
      ·
        have h := wp_neg h q
        refine rs_aldn wi_188_23 l0 ?_
        refine dq_gr wi_188_24 wf_188_25 tf_146_1 ?_
        refine rs_ildn wi_188_27 l1 ?_
        refine rs_V wi_188_28 wc_188_172 rfl (dq_isa tf_114_0 wa_2_21) (Nat.le_trans (by decide) hF) (ml_le wm_21 (Nat.le_trans (by decide) hLo)) rfl (sp_21 hw (Nat.le_trans (by decide : 1 ≤ 7 - 1) (Nat.sub_le_sub_right hF 1)) (ml_sub wm_21 (Nat.le_trans (by decide : 21 ≤ 155 - 23) (Nat.sub_le_sub_right hLo 23))) (wp_bind h) (fun v3 h => rs_back1 ?_))
        refine wp_jn (B := fun p4 : cS => ∀ lv, rx_ld lv 0 = some (.ref 146) → rx_ld lv 1 = some (.int s2.1) → rs (rt_P sc fm) 188 F Lo 69 lv [] (hq true p4 y w) Q) h (fun p4 h lv l0 l1 => ?_) (fun j69 hj69 h => ?_)
        ·
          obtain ⟨v6, e7, h⟩ := wp_lt h
          refine dl_inc wi_188_69 l1 rfl e7 (fun lv l1 t5 => ?_)
          have l0 := t5 _ _ (by decide) (Or.inl rfl) l0
          refine rs_goto (tg := 2) wi_188_72 ⟨by decide, by decide⟩ ?_
          exact h _ l0 l1
        refine rs_ifle (tg := 69) wi_188_31 ⟨by decide, by decide⟩ (fun q => ?_) (fun q => ?_)
        ·
          have h := wp_pos h q
          exact hj69 _ h _ l0 l1
        ·
          have h := wp_neg h q
          refine rs_pure wi_188_34 rfl ?_
          refine rs_topi (v := 0) (by decide) ?_
          refine dl_istn wi_188_35 rfl (fun lv l2 t8 => ?_)
          have l0 := t8 _ _ (by decide) (Or.inl rfl) l0
          have l1 := t8 _ _ (by decide) (Or.inl rfl) l1
          refine whl_ex (A := fun s9 : Int32 × cS => ∀ lv, rx_ld lv 0 = some (.ref 146) → rx_ld lv 1 = some (.int s2.1) → rx_ld lv 2 = some (.int s9.1) → rs (rt_P sc fm) 188 F Lo 36 lv [] (hq true s9.2 y w) Q) (B := (fun x17 : cS => ∀ lv, rx_ld lv 0 = some (.ref 146) → rx_ld lv 1 = some (.int s2.1) → rs (rt_P sc fm) 188 F Lo 69 lv [] (hq true x17 y w) Q)) ?_ ?_ _ _ (wp_bind h) _ l0 l1 l2
          · intro s9 h lv l0 l1 l2
            refine rs_ildn wi_188_36 l2 ?_
            refine rs_aldn wi_188_37 l0 ?_
            refine dq_gr wi_188_38 wf_188_21 tf_146_0 ?_
            refine dq_gi wi_188_41 wf_188_37 tf_7_2 ?_
            refine rs_icge (tg := 69) wi_188_44 ⟨by decide, by decide⟩ (fun q => ?_) (fun q => ?_)
            ·
              have h := wp_pos h q
              exact h _ l0 l1
            ·
              have h := wp_neg h q
              refine rs_aldn wi_188_47 l0 ?_
              refine dq_gr wi_188_48 wf_188_9 tf_146_6 ?_
              refine rs_ildn wi_188_51 l1 ?_
              refine rs_pure wi_188_52 rfl ?_
              refine rs_topi (v := 4) (by decide) ?_
              refine rs_pure wi_188_53 rfl ?_
              refine rs_ildn wi_188_54 l2 ?_
              refine rs_pure wi_188_55 rfl ?_
              refine rs_aldn wi_188_56 l0 ?_
              refine rs_ildn wi_188_57 l1 ?_
              refine rs_ildn wi_188_58 l2 ?_
              refine rs_V wi_188_59 wc_188_175 rfl (dq_isa tf_146_0 wa_4_189) (Nat.le_trans (by decide) hF) (ml_le wm_189 (Nat.le_trans (by decide) hLo)) rfl (sp_189 hw (Nat.le_trans (by decide : 6 ≤ 7 - 1) (Nat.sub_le_sub_right hF 1)) (ml_sub wm_189 (Nat.le_trans (by decide : 131 ≤ 155 - 24) (Nat.sub_le_sub_right hLo 24))) (wp_bind h) (fun r10 h => rs_back1 ?_))
              obtain ⟨g11, h⟩ := wp_gd h
              obtain ⟨c12, e13, h⟩ := wp_lt h
              refine dq_iast wi_188_62 t_147 g11 e13 ?_
              obtain ⟨v15, e16, h⟩ := wp_lt h
              refine dl_inc wi_188_63 l2 rfl e16 (fun lv l2 t14 => ?_)
              have l0 := t14 _ _ (by decide) (Or.inl rfl) l0
              have l1 := t14 _ _ (by decide) (Or.inl rfl) l1
              refine rs_goto (tg := 36) wi_188_66 ⟨by decide, by decide⟩ ?_
              exact h _ l0 l1 l2
          ·
            intro x17 h lv l0 l1
            exact hj69 _ h _ l0 l1
  ·
    intro x18 h lv l0
    refine rs_aldn wi_188_75 l0 ?_
    refine rs_pure wi_188_76 rfl ?_
    refine rs_topi (v := 0) (by decide) ?_
    obtain ⟨c19, e20, h⟩ := wp_lt h
    refine dq_pi wi_188_77 wp_188_33 tf_146_8 (nb_n (by decide)) (nb_f (by decide)) e20 ?_
    exact rs_vret wi_188_80 wr_188 (hQ c19 h)
theorem wf_190_15 : rx_ft (rt_P sc fm) 190 15 = some (4, 7) := (by decide +kernel : rt_ft 190 15 = some (4, 7))
theorem wf_190_9 : rx_ft (rt_P sc fm) 190 9 = some (4, 6) := (by decide +kernel : rt_ft 190 9 = some (4, 6))
theorem wi_190_0 : ri (rt_P sc fm) 190 0 (.aload_n 0) (1) := ri_of (by decide +kernel) rfl
theorem wi_190_1 : ri (rt_P sc fm) 190 1 (.getfield 9) (4) := ri_of (by decide +kernel) rfl
theorem wi_190_10 : ri (rt_P sc fm) 190 10 (.istore_n 3) (11) := ri_of (by decide +kernel) rfl
theorem wi_190_11 : ri (rt_P sc fm) 190 11 (.iload_n 3) (12) := ri_of (by decide +kernel) rfl
theorem wi_190_12 : ri (rt_P sc fm) 190 12 (.ifCond .lt 7) (15) := ri_of (by decide +kernel) rfl
theorem wi_190_15 : ri (rt_P sc fm) 190 15 (.iload_n 3) (16) := ri_of (by decide +kernel) rfl
theorem wi_190_16 : ri (rt_P sc fm) 190 16 (.goto 13) (19) := ri_of (by decide +kernel) rfl
theorem wi_190_19 : ri (rt_P sc fm) 190 19 (.aload_n 0) (20) := ri_of (by decide +kernel) rfl
theorem wi_190_20 : ri (rt_P sc fm) 190 20 (.getfield 15) (23) := ri_of (by decide +kernel) rfl
theorem wi_190_23 : ri (rt_P sc fm) 190 23 (.iload_n 1) (24) := ri_of (by decide +kernel) rfl
theorem wi_190_24 : ri (rt_P sc fm) 190 24 (.iconst 4) (25) := ri_of (by decide +kernel) rfl
theorem wi_190_25 : ri (rt_P sc fm) 190 25 (.imul) (26) := ri_of (by decide +kernel) rfl
theorem wi_190_26 : ri (rt_P sc fm) 190 26 (.iload_n 2) (27) := ri_of (by decide +kernel) rfl
theorem wi_190_27 : ri (rt_P sc fm) 190 27 (.iadd) (28) := ri_of (by decide +kernel) rfl
theorem wi_190_28 : ri (rt_P sc fm) 190 28 (.iaload) (29) := ri_of (by decide +kernel) rfl
theorem wi_190_29 : ri (rt_P sc fm) 190 29 (.ireturn) (30) := ri_of (by decide +kernel) rfl
theorem wi_190_4 : ri (rt_P sc fm) 190 4 (.iload_n 1) (5) := ri_of (by decide +kernel) rfl
theorem wi_190_5 : ri (rt_P sc fm) 190 5 (.iconst 4) (6) := ri_of (by decide +kernel) rfl
theorem wi_190_6 : ri (rt_P sc fm) 190 6 (.imul) (7) := ri_of (by decide +kernel) rfl
theorem wi_190_7 : ri (rt_P sc fm) 190 7 (.iload_n 2) (8) := ri_of (by decide +kernel) rfl
theorem wi_190_8 : ri (rt_P sc fm) 190 8 (.iadd) (9) := ri_of (by decide +kernel) rfl
theorem wi_190_9 : ri (rt_P sc fm) 190 9 (.iaload) (10) := ri_of (by decide +kernel) rfl
theorem wr_190 : rx_rt (rt_P sc fm) 190 = (some FieldType.int) := (by decide +kernel : rt_rt 190 = (some FieldType.int))
/-- MarkHouse$Effects.theMark(II)I -/
def d_190 (n : Nat) (a1 : Int32) (a2 : Int32) (c : cS) : Option (Int32) :=
  if ib ((a1 * 4) + a2) 4800 then
  lt ((c.1 147 (ix ((a1 * 4) + a2))) : Int32) (fun v3 =>
  jn (fun p5 : Int32 =>
    some p5)
  (fun j29 =>
  if v3 < 0 then
    if ib ((a1 * 4) + a2) 4800 then
    j29 (c.1 148 (ix ((a1 * 4) + a2)))
    else none
  else
    j29 v3))
  else none
theorem sp_190 {F Lo n : Nat} {a1 : Int32} {a2 : Int32} {c y : cS} {w : cW} {K : Int32 → Prop} {Q : ((Option Value) ⊕ String) → List va_E → Prop} (hw : rOK fm w) (hF : 0 ≤ F) (hLo : 0 ≤ Lo)  (h : wp (d_190 n a1 a2 c) K) (hQ : ∀ r, K r → Q (.inl (some (.int r))) (hq true c y w)) : rs (rt_P sc fm) 190 F Lo 0 [(0, .ref 146), (1, .int a1), (2, .int a2)] [] (hq true c y w) Q := by
  unfold d_190 at h
  obtain ⟨lv, elv⟩ : ∃ lv : rx_L, lv = [(0, .ref 146), (1, .int a1), (2, .int a2)] := ⟨_, rfl⟩
  rw [← elv]
  have l0 : rx_ld lv 0 = some (.ref 146) := by rw [elv]; rfl
  have l1 : rx_ld lv 1 = some (.int a1) := by rw [elv]; rfl
  have l2 : rx_ld lv 2 = some (.int a2) := by rw [elv]; rfl
  refine rs_aldn wi_190_0 l0 ?_
  refine dq_gr wi_190_1 wf_190_9 tf_146_6 ?_
  refine rs_ildn wi_190_4 l1 ?_
  refine rs_pure wi_190_5 rfl ?_
  refine rs_topi (v := 4) (by decide) ?_
  refine rs_pure wi_190_6 rfl ?_
  refine rs_ildn wi_190_7 l2 ?_
  refine rs_pure wi_190_8 rfl ?_
  obtain ⟨g1, h⟩ := wp_gd h
  refine dq_iald wi_190_9 t_147 g1 ?_
  obtain ⟨v3, e4, h⟩ := wp_lt h
  refine rs_topi e4 ?_
  refine dl_istn wi_190_10 rfl (fun lv l3 t2 => ?_)
  have l0 := t2 _ _ (by decide) (Or.inl rfl) l0
  have l1 := t2 _ _ (by decide) (Or.inl rfl) l1
  have l2 := t2 _ _ (by decide) (Or.inl rfl) l2
  refine rs_ildn wi_190_11 l3 ?_
  refine wp_jn (B := fun p5 : Int32 => ∀ lv, rs (rt_P sc fm) 190 F Lo 29 lv [.int p5] (hq true c y w) Q) h (fun p5 h lv => ?_) (fun j29 hj29 h => ?_)
  ·
    exact rs_iret wi_190_29 wr_190 rfl (hQ p5 h)
  refine rs_iflt (tg := 19) wi_190_12 ⟨by decide, by decide⟩ (fun q => ?_) (fun q => ?_)
  ·
    have h := wp_pos h q
    refine rs_aldn wi_190_19 l0 ?_
    refine dq_gr wi_190_20 wf_190_15 tf_146_7 ?_
    refine rs_ildn wi_190_23 l1 ?_
    refine rs_pure wi_190_24 rfl ?_
    refine rs_topi (v := 4) (by decide) ?_
    refine rs_pure wi_190_25 rfl ?_
    refine rs_ildn wi_190_26 l2 ?_
    refine rs_pure wi_190_27 rfl ?_
    obtain ⟨g6, h⟩ := wp_gd h
    refine dq_iald wi_190_28 t_148 g6 ?_
    exact hj29 _ h _
  ·
    have h := wp_neg h q
    refine rs_ildn wi_190_15 l3 ?_
    refine rs_goto (tg := 29) wi_190_16 ⟨by decide, by decide⟩ ?_
    exact hj29 _ h _
theorem wa_4_188 : rz_cn 4 (rx_yn (rt_P sc fm) 188).cls = true := (by decide +kernel : rz_cn 4 (rt_yn 188).cls = true)
theorem wa_4_190 : rz_cn 4 (rx_yn (rt_P sc fm) 190).cls = true := (by decide +kernel : rz_cn 4 (rt_yn 190).cls = true)
theorem wc_71_146 : rx_ct (rt_P sc fm) 71 146 = some (0, 21, 1) := (by decide +kernel : rt_ct 71 146 = some (0, 21, 1))
theorem wc_71_170 : rx_ct (rt_P sc fm) 71 170 = some (0, 37, 1) := (by decide +kernel : rt_ct 71 170 = some (0, 37, 1))
theorem wc_71_269 : rx_ct (rt_P sc fm) 71 269 = some (0, 188, 0) := (by decide +kernel : rt_ct 71 269 = some (0, 188, 0))
theorem wc_71_272 : rx_ct (rt_P sc fm) 71 272 = some (0, 190, 2) := (by decide +kernel : rt_ct 71 272 = some (0, 190, 2))
theorem wf_71_19 : rx_ft (rt_P sc fm) 71 19 = some (14, 1) := (by decide +kernel : rt_ft 71 19 = some (14, 1))
theorem wf_71_28 : rx_ft (rt_P sc fm) 71 28 = some (14, 2) := (by decide +kernel : rt_ft 71 28 = some (14, 2))
theorem wf_71_53 : rx_ft (rt_P sc fm) 71 53 = some (14, 5) := (by decide +kernel : rt_ft 71 53 = some (14, 5))
theorem wi_71_0 : ri (rt_P sc fm) 71 0 (.aload_n 0) (1) := ri_of (by decide +kernel) rfl
theorem wi_71_1 : ri (rt_P sc fm) 71 1 (.getfield 28) (4) := ri_of (by decide +kernel) rfl
theorem wi_71_11 : ri (rt_P sc fm) 71 11 (.aload_n 0) (12) := ri_of (by decide +kernel) rfl
theorem wi_71_12 : ri (rt_P sc fm) 71 12 (.getfield 19) (15) := ri_of (by decide +kernel) rfl
theorem wi_71_15 : ri (rt_P sc fm) 71 15 (.iload_n 2) (16) := ri_of (by decide +kernel) rfl
theorem wi_71_16 : ri (rt_P sc fm) 71 16 (.invokevirtual 170) (19) := ri_of (by decide +kernel) rfl
theorem wi_71_19 : ri (rt_P sc fm) 71 19 (.ifCond .ne 5) (22) := ri_of (by decide +kernel) rfl
theorem wi_71_22 : ri (rt_P sc fm) 71 22 (.iconst (-1)) (23) := ri_of (by decide +kernel) rfl
theorem wi_71_23 : ri (rt_P sc fm) 71 23 (.ireturn) (24) := ri_of (by decide +kernel) rfl
theorem wi_71_24 : ri (rt_P sc fm) 71 24 (.aload_n 0) (25) := ri_of (by decide +kernel) rfl
theorem wi_71_25 : ri (rt_P sc fm) 71 25 (.getfield 53) (28) := ri_of (by decide +kernel) rfl
theorem wi_71_28 : ri (rt_P sc fm) 71 28 (.invokevirtual 269) (31) := ri_of (by decide +kernel) rfl
theorem wi_71_31 : ri (rt_P sc fm) 71 31 (.aload_n 0) (32) := ri_of (by decide +kernel) rfl
theorem wi_71_32 : ri (rt_P sc fm) 71 32 (.getfield 53) (35) := ri_of (by decide +kernel) rfl
theorem wi_71_35 : ri (rt_P sc fm) 71 35 (.iload_n 1) (36) := ri_of (by decide +kernel) rfl
theorem wi_71_36 : ri (rt_P sc fm) 71 36 (.iload_n 2) (37) := ri_of (by decide +kernel) rfl
theorem wi_71_37 : ri (rt_P sc fm) 71 37 (.invokevirtual 272) (40) := ri_of (by decide +kernel) rfl
theorem wi_71_4 : ri (rt_P sc fm) 71 4 (.iload_n 1) (5) := ri_of (by decide +kernel) rfl
theorem wi_71_40 : ri (rt_P sc fm) 71 40 (.ireturn) (41) := ri_of (by decide +kernel) rfl
theorem wi_71_5 : ri (rt_P sc fm) 71 5 (.invokevirtual 146) (8) := ri_of (by decide +kernel) rfl
theorem wi_71_8 : ri (rt_P sc fm) 71 8 (.ifCond .le 14) (11) := ri_of (by decide +kernel) rfl
theorem wm_188 : rx_ml (rt_P sc fm) 188 = 3 := (by decide +kernel : rt_ml 188 = 3)
theorem wm_190 : rx_ml (rt_P sc fm) 190 = 4 := (by decide +kernel : rt_ml 190 = 4)
theorem wr_71 : rx_rt (rt_P sc fm) 71 = (some FieldType.int) := (by decide +kernel : rt_rt 71 = (some FieldType.int))
/-- MarkHouse.markOf(II)I -/
def d_71 (n : Nat) (a1 : Int32) (a2 : Int32) (c : cS) : Option (Int32 × cS) :=
  Option.bind (d_21 n a1 c) (fun v1 =>
  jn (fun p2 : Unit =>
    some ((-1), c))
  (fun j22 =>
  if v1 ≤ 0 then
    j22 ()
  else
    Option.bind (d_37 n a2 c) (fun v3 =>
    if v3 = 0 then
      j22 ()
    else
      Option.bind (d_188 n c) (fun r4 =>
      Option.bind (d_190 n a1 a2 r4) (fun v5 =>
      some (v5, r4))))))
theorem sp_71 {F Lo n : Nat} {a1 : Int32} {a2 : Int32} {c y : cS} {w : cW} {K : Int32 × cS → Prop} {Q : ((Option Value) ⊕ String) → List va_E → Prop} (hw : rOK fm w) (hF : 8 ≤ F) (hLo : 177 ≤ Lo)  (h : wp (d_71 n a1 a2 c) K) (hQ : ∀ r, K r → Q (.inl (some (.int r.1))) (hq true r.2 y w)) : rs (rt_P sc fm) 71 F Lo 0 [(0, .ref 0), (1, .int a1), (2, .int a2)] [] (hq true c y w) Q := by
  unfold d_71 at h
  obtain ⟨lv, elv⟩ : ∃ lv : rx_L, lv = [(0, .ref 0), (1, .int a1), (2, .int a2)] := ⟨_, rfl⟩
  rw [← elv]
  have l0 : rx_ld lv 0 = some (.ref 0) := by rw [elv]; rfl
  have l1 : rx_ld lv 1 = some (.int a1) := by rw [elv]; rfl
  have l2 : rx_ld lv 2 = some (.int a2) := by rw [elv]; rfl
  refine rs_aldn wi_71_0 l0 ?_
  refine dq_gr wi_71_1 wf_71_28 tf_0_2 ?_
  refine rs_ildn wi_71_4 l1 ?_
  refine rs_V wi_71_5 wc_71_146 rfl (dq_isa tf_114_0 wa_2_21) (Nat.le_trans (by decide) hF) (ml_le wm_21 (Nat.le_trans (by decide) hLo)) rfl (sp_21 hw (Nat.le_trans (by decide : 1 ≤ 8 - 1) (Nat.sub_le_sub_right hF 1)) (ml_sub wm_21 (Nat.le_trans (by decide : 21 ≤ 177 - 23) (Nat.sub_le_sub_right hLo 23))) (wp_bind h) (fun v1 h => rs_back1 ?_))
  refine wp_jn (B := fun p2 : Unit => ∀ lv, rs (rt_P sc fm) 71 F Lo 22 lv [] (hq true c y w) Q) h (fun p2 h lv => ?_) (fun j22 hj22 h => ?_)
  ·
    refine rs_pure wi_71_22 rfl ?_
    refine rs_topi (v := (-1)) (by decide) ?_
    exact rs_iret wi_71_23 wr_71 rfl (hQ ((-1), c) h)
  refine rs_ifle (tg := 22) wi_71_8 ⟨by decide, by decide⟩ (fun q => ?_) (fun q => ?_)
  ·
    have h := wp_pos h q
    exact hj22 _ h _
  ·
    have h := wp_neg h q
    refine rs_aldn wi_71_11 l0 ?_
    refine dq_gr wi_71_12 wf_71_19 tf_0_1 ?_
    refine rs_ildn wi_71_15 l2 ?_
    refine rs_V wi_71_16 wc_71_170 rfl (dq_isa tf_7_0 wa_9_37) (Nat.le_trans (by decide) hF) (ml_le wm_37 (Nat.le_trans (by decide) hLo)) rfl (sp_37 hw (Nat.le_trans (by decide : 0 ≤ 8 - 1) (Nat.sub_le_sub_right hF 1)) (ml_sub wm_37 (Nat.le_trans (by decide : 0 ≤ 177 - 21) (Nat.sub_le_sub_right hLo 21))) (wp_bind h) (fun v3 h => rs_back1 ?_))
    refine rs_ifne (tg := 24) wi_71_19 ⟨by decide, by decide⟩ (fun q => ?_) (fun q => ?_)
    ·
      have h := wp_neg h q
      refine rs_aldn wi_71_24 l0 ?_
      refine dq_gr wi_71_25 wf_71_53 tf_0_5 ?_
      refine rs_V wi_71_28 wc_71_269 rfl (dq_isa tf_146_0 wa_4_188) (Nat.le_trans (by decide) hF) (ml_le wm_188 (Nat.le_trans (by decide) hLo)) rfl (sp_188 hw (Nat.le_trans (by decide : 7 ≤ 8 - 1) (Nat.sub_le_sub_right hF 1)) (ml_sub wm_188 (Nat.le_trans (by decide : 155 ≤ 177 - 22) (Nat.sub_le_sub_right hLo 22))) (wp_bind h) (fun r4 h => rs_back0 ?_))
      refine rs_aldn wi_71_31 l0 ?_
      refine dq_gr wi_71_32 wf_71_53 tf_0_5 ?_
      refine rs_ildn wi_71_35 l1 ?_
      refine rs_ildn wi_71_36 l2 ?_
      refine rs_V wi_71_37 wc_71_272 rfl (dq_isa tf_146_0 wa_4_190) (Nat.le_trans (by decide) hF) (ml_le wm_190 (Nat.le_trans (by decide) hLo)) rfl (sp_190 hw (Nat.le_trans (by decide : 0 ≤ 8 - 1) (Nat.sub_le_sub_right hF 1)) (ml_sub wm_190 (Nat.le_trans (by decide : 0 ≤ 177 - 23) (Nat.sub_le_sub_right hLo 23))) (wp_bind h) (fun v5 h => rs_back1 ?_))
      exact rs_iret wi_71_40 wr_71 rfl (hQ (v5, r4) h)
    ·
      have h := wp_pos h q
      exact hj22 _ h _
theorem wc_226_64 : rx_ct (rt_P sc fm) 226 64 = some (0, 224, 2) := (by decide +kernel : rt_ct 226 64 = some (0, 224, 2))
theorem wc_226_68 : rx_ct (rt_P sc fm) 226 68 = some (0, 225, 4) := (by decide +kernel : rt_ct 226 68 = some (0, 225, 4))
theorem wf_226_15 : rx_ft (rt_P sc fm) 226 15 = some (7, 1) := (by decide +kernel : rt_ft 226 15 = some (7, 1))
theorem wf_226_19 : rx_ft (rt_P sc fm) 226 19 = some (7, 2) := (by decide +kernel : rt_ft 226 19 = some (7, 2))
theorem wf_226_29 : rx_ft (rt_P sc fm) 226 29 = some (7, 5) := (by decide +kernel : rt_ft 226 29 = some (7, 5))
theorem wf_226_32 : rx_ft (rt_P sc fm) 226 32 = some (7, 6) := (by decide +kernel : rt_ft 226 32 = some (7, 6))
theorem wf_226_36 : rx_ft (rt_P sc fm) 226 36 = some (7, 7) := (by decide +kernel : rt_ft 226 36 = some (7, 7))
theorem wf_226_9 : rx_ft (rt_P sc fm) 226 9 = some (7, 0) := (by decide +kernel : rt_ft 226 9 = some (7, 0))
theorem wi_226_0 : ri (rt_P sc fm) 226 0 (.aload_n 0) (1) := ri_of (by decide +kernel) rfl
theorem wi_226_1 : ri (rt_P sc fm) 226 1 (.iload_n 1) (2) := ri_of (by decide +kernel) rfl
theorem wi_226_11 : ri (rt_P sc fm) 226 11 (.istore_n 3) (12) := ri_of (by decide +kernel) rfl
theorem wi_226_12 : ri (rt_P sc fm) 226 12 (.iload_n 3) (13) := ri_of (by decide +kernel) rfl
theorem wi_226_13 : ri (rt_P sc fm) 226 13 (.ifCond .lt 69) (16) := ri_of (by decide +kernel) rfl
theorem wi_226_16 : ri (rt_P sc fm) 226 16 (.aload_n 0) (17) := ri_of (by decide +kernel) rfl
theorem wi_226_17 : ri (rt_P sc fm) 226 17 (.getfield 15) (20) := ri_of (by decide +kernel) rfl
theorem wi_226_2 : ri (rt_P sc fm) 226 2 (.aload_n 0) (3) := ri_of (by decide +kernel) rfl
theorem wi_226_20 : ri (rt_P sc fm) 226 20 (.iload_n 3) (21) := ri_of (by decide +kernel) rfl
theorem wi_226_21 : ri (rt_P sc fm) 226 21 (.aload_n 0) (22) := ri_of (by decide +kernel) rfl
theorem wi_226_22 : ri (rt_P sc fm) 226 22 (.getfield 15) (25) := ri_of (by decide +kernel) rfl
theorem wi_226_25 : ri (rt_P sc fm) 226 25 (.iload_n 2) (26) := ri_of (by decide +kernel) rfl
theorem wi_226_26 : ri (rt_P sc fm) 226 26 (.iaload) (27) := ri_of (by decide +kernel) rfl
theorem wi_226_27 : ri (rt_P sc fm) 226 27 (.iastore) (28) := ri_of (by decide +kernel) rfl
theorem wi_226_28 : ri (rt_P sc fm) 226 28 (.iconst 0) (29) := ri_of (by decide +kernel) rfl
theorem wi_226_29 : ri (rt_P sc fm) 226 29 (.istore 4) (31) := ri_of (by decide +kernel) rfl
theorem wi_226_3 : ri (rt_P sc fm) 226 3 (.getfield 9) (6) := ri_of (by decide +kernel) rfl
theorem wi_226_31 : ri (rt_P sc fm) 226 31 (.iload 4) (33) := ri_of (by decide +kernel) rfl
theorem wi_226_33 : ri (rt_P sc fm) 226 33 (.aload_n 0) (34) := ri_of (by decide +kernel) rfl
theorem wi_226_34 : ri (rt_P sc fm) 226 34 (.getfield 19) (37) := ri_of (by decide +kernel) rfl
theorem wi_226_37 : ri (rt_P sc fm) 226 37 (.iload_n 2) (38) := ri_of (by decide +kernel) rfl
theorem wi_226_38 : ri (rt_P sc fm) 226 38 (.iaload) (39) := ri_of (by decide +kernel) rfl
theorem wi_226_39 : ri (rt_P sc fm) 226 39 (.if_icmp .ge 43) (42) := ri_of (by decide +kernel) rfl
theorem wi_226_42 : ri (rt_P sc fm) 226 42 (.iload_n 2) (43) := ri_of (by decide +kernel) rfl
theorem wi_226_43 : ri (rt_P sc fm) 226 43 (.iconst 4) (44) := ri_of (by decide +kernel) rfl
theorem wi_226_44 : ri (rt_P sc fm) 226 44 (.imul) (45) := ri_of (by decide +kernel) rfl
theorem wi_226_45 : ri (rt_P sc fm) 226 45 (.iload 4) (47) := ri_of (by decide +kernel) rfl
theorem wi_226_47 : ri (rt_P sc fm) 226 47 (.iadd) (48) := ri_of (by decide +kernel) rfl
theorem wi_226_48 : ri (rt_P sc fm) 226 48 (.istore 5) (50) := ri_of (by decide +kernel) rfl
theorem wi_226_50 : ri (rt_P sc fm) 226 50 (.aload_n 0) (51) := ri_of (by decide +kernel) rfl
theorem wi_226_51 : ri (rt_P sc fm) 226 51 (.iload_n 3) (52) := ri_of (by decide +kernel) rfl
theorem wi_226_52 : ri (rt_P sc fm) 226 52 (.aload_n 0) (53) := ri_of (by decide +kernel) rfl
theorem wi_226_53 : ri (rt_P sc fm) 226 53 (.getfield 29) (56) := ri_of (by decide +kernel) rfl
theorem wi_226_56 : ri (rt_P sc fm) 226 56 (.iload 5) (58) := ri_of (by decide +kernel) rfl
theorem wi_226_58 : ri (rt_P sc fm) 226 58 (.laload) (59) := ri_of (by decide +kernel) rfl
theorem wi_226_59 : ri (rt_P sc fm) 226 59 (.aload_n 0) (60) := ri_of (by decide +kernel) rfl
theorem wi_226_6 : ri (rt_P sc fm) 226 6 (.iload_n 2) (7) := ri_of (by decide +kernel) rfl
theorem wi_226_60 : ri (rt_P sc fm) 226 60 (.getfield 32) (63) := ri_of (by decide +kernel) rfl
theorem wi_226_63 : ri (rt_P sc fm) 226 63 (.iload 5) (65) := ri_of (by decide +kernel) rfl
theorem wi_226_65 : ri (rt_P sc fm) 226 65 (.baload) (66) := ri_of (by decide +kernel) rfl
theorem wi_226_66 : ri (rt_P sc fm) 226 66 (.aload_n 0) (67) := ri_of (by decide +kernel) rfl
theorem wi_226_67 : ri (rt_P sc fm) 226 67 (.getfield 36) (70) := ri_of (by decide +kernel) rfl
theorem wi_226_7 : ri (rt_P sc fm) 226 7 (.laload) (8) := ri_of (by decide +kernel) rfl
theorem wi_226_70 : ri (rt_P sc fm) 226 70 (.iload 5) (72) := ri_of (by decide +kernel) rfl
theorem wi_226_72 : ri (rt_P sc fm) 226 72 (.laload) (73) := ri_of (by decide +kernel) rfl
theorem wi_226_73 : ri (rt_P sc fm) 226 73 (.invokevirtual 68) (76) := ri_of (by decide +kernel) rfl
theorem wi_226_76 : ri (rt_P sc fm) 226 76 (.iinc 4 1) (79) := ri_of (by decide +kernel) rfl
theorem wi_226_79 : ri (rt_P sc fm) 226 79 (.goto (-48)) (82) := ri_of (by decide +kernel) rfl
theorem wi_226_8 : ri (rt_P sc fm) 226 8 (.invokevirtual 64) (11) := ri_of (by decide +kernel) rfl
theorem wi_226_82 : ri (rt_P sc fm) 226 82 (.return_) (83) := ri_of (by decide +kernel) rfl
theorem wr_226 : rx_rt (rt_P sc fm) 226 = none := (by decide +kernel : rt_rt 226 = none)
/-- MarkHouse$Marks.appendCopy(II)V -/
def d_226 (n : Nat) (a1 : Int32) (a2 : Int32) (c : cS) : Option (cS) :=
  if ib a2 4096 then
  Option.bind (d_224 n a1 (c.2 134 (ix a2)) c) (fun r2 =>
  jn (fun p4 : cS =>
    some p4)
  (fun j82 =>
  if r2.1 < 0 then
    j82 r2.2
  else
    if ib a2 4096 then
    if ib r2.1 4096 then
    lt (pI r2.2 135 (ix r2.1) (r2.2.1 135 (ix a2))) (fun c7 =>
    Option.bind (whl (R := (cS)) (fun s10 : Int32 × cS =>
      if ib a2 4096 then
      if (s10.2.1 136 (ix a2)) ≤ s10.1 then
        some (.inr s10.2)
      else
        lt (((a2 * 4) + s10.1) : Int32) (fun v13 =>
        if ib v13 16384 then
        if ib v13 16384 then
        if ib v13 16384 then
        Option.bind (d_225 n r2.1 (s10.2.2 139 (ix v13)) (s10.2.1 140 (ix v13)) (s10.2.2 141 (ix v13)) s10.2) (fun r18 =>
        lt (s10.1 + 1 : Int32) (fun v20 =>
        some (.inl (v20, r18))))
        else none
        else none
        else none)
      else none) n (0, c7))
    (fun x22 : cS =>
      j82 x22))
    else none
    else none))
  else none
theorem sp_226 {F Lo n : Nat} {a1 : Int32} {a2 : Int32} {c y : cS} {w : cW} {K : cS → Prop} {Q : ((Option Value) ⊕ String) → List va_E → Prop} (hw : rOK fm w) (hF : 1 ≤ F) (hLo : 27 ≤ Lo)  (h : wp (d_226 n a1 a2 c) K) (hQ : ∀ r, K r → Q (.inl none) (hq true r y w)) : rs (rt_P sc fm) 226 F Lo 0 [(0, .ref 133), (1, .int a1), (2, .int a2)] [] (hq true c y w) Q := by
  unfold d_226 at h
  obtain ⟨lv, elv⟩ : ∃ lv : rx_L, lv = [(0, .ref 133), (1, .int a1), (2, .int a2)] := ⟨_, rfl⟩
  rw [← elv]
  have l0 : rx_ld lv 0 = some (.ref 133) := by rw [elv]; rfl
  have l1 : rx_ld lv 1 = some (.int a1) := by rw [elv]; rfl
  have l2 : rx_ld lv 2 = some (.int a2) := by rw [elv]; rfl
  refine rs_aldn wi_226_0 l0 ?_
  refine rs_ildn wi_226_1 l1 ?_
  refine rs_aldn wi_226_2 l0 ?_
  refine dq_gr wi_226_3 wf_226_9 tf_133_0 ?_
  refine rs_ildn wi_226_6 l2 ?_
  obtain ⟨g1, h⟩ := wp_gd h
  refine dq_lald wi_226_7 t_134 g1 ?_
  refine rs_V wi_226_8 wc_226_64 rfl (dq_isa tf_133_0 wa_7_224) (Nat.le_trans (by decide) hF) (ml_le wm_224 (Nat.le_trans (by decide) hLo)) rfl (sp_224 hw (Nat.le_trans (by decide : 0 ≤ 1 - 1) (Nat.sub_le_sub_right hF 1)) (ml_sub wm_224 (Nat.le_trans (by decide : 0 ≤ 27 - 24) (Nat.sub_le_sub_right hLo 24))) (wp_bind h) (fun r2 h => rs_back1 ?_))
  refine dl_istn wi_226_11 rfl (fun lv l3 t3 => ?_)
  have l0 := t3 _ _ (by decide) (Or.inl rfl) l0
  have l2 := t3 _ _ (by decide) (Or.inl rfl) l2
  refine rs_ildn wi_226_12 l3 ?_
  refine wp_jn (B := fun p4 : cS => ∀ lv, rs (rt_P sc fm) 226 F Lo 82 lv [] (hq true p4 y w) Q) h (fun p4 h lv => ?_) (fun j82 hj82 h => ?_)
  ·
    exact rs_vret wi_226_82 wr_226 (hQ p4 h)
  refine rs_iflt (tg := 82) wi_226_13 ⟨by decide, by decide⟩ (fun q => ?_) (fun q => ?_)
  ·
    have h := wp_pos h q
    exact hj82 _ h _
  ·
    have h := wp_neg h q
    refine rs_aldn wi_226_16 l0 ?_
    refine dq_gr wi_226_17 wf_226_15 tf_133_1 ?_
    refine rs_ildn wi_226_20 l3 ?_
    refine rs_aldn wi_226_21 l0 ?_
    refine dq_gr wi_226_22 wf_226_15 tf_133_1 ?_
    refine rs_ildn wi_226_25 l2 ?_
    obtain ⟨g5, h⟩ := wp_gd h
    refine dq_iald wi_226_26 t_135 g5 ?_
    obtain ⟨g6, h⟩ := wp_gd h
    obtain ⟨c7, e8, h⟩ := wp_lt h
    refine dq_iast wi_226_27 t_135 g6 e8 ?_
    refine rs_pure wi_226_28 rfl ?_
    refine rs_topi (v := 0) (by decide) ?_
    refine dl_ist wi_226_29 rfl (fun lv l4 t9 => ?_)
    have l0 := t9 _ _ (by decide) (Or.inl rfl) l0
    have l2 := t9 _ _ (by decide) (Or.inl rfl) l2
    have l3 := t9 _ _ (by decide) (Or.inl rfl) l3
    refine whl_ex (A := fun s10 : Int32 × cS => ∀ lv, rx_ld lv 0 = some (.ref 133) → rx_ld lv 2 = some (.int a2) → rx_ld lv 3 = some (.int r2.1) → rx_ld lv 4 = some (.int s10.1) → rs (rt_P sc fm) 226 F Lo 31 lv [] (hq true s10.2 y w) Q) (B := (fun x22 : cS => ∀ lv, rs (rt_P sc fm) 226 F Lo 82 lv [] (hq true x22 y w) Q)) ?_ ?_ _ _ (wp_bind h) _ l0 l2 l3 l4
    · intro s10 h lv l0 l2 l3 l4
      refine rs_ild wi_226_31 l4 ?_
      refine rs_aldn wi_226_33 l0 ?_
      refine dq_gr wi_226_34 wf_226_19 tf_133_2 ?_
      refine rs_ildn wi_226_37 l2 ?_
      obtain ⟨g11, h⟩ := wp_gd h
      refine dq_iald wi_226_38 t_136 g11 ?_
      refine rs_icge (tg := 82) wi_226_39 ⟨by decide, by decide⟩ (fun q => ?_) (fun q => ?_)
      ·
        have h := wp_pos h q
        exact h _
      ·
        have h := wp_neg h q
        refine rs_ildn wi_226_42 l2 ?_
        refine rs_pure wi_226_43 rfl ?_
        refine rs_topi (v := 4) (by decide) ?_
        refine rs_pure wi_226_44 rfl ?_
        refine rs_ild wi_226_45 l4 ?_
        refine rs_pure wi_226_47 rfl ?_
        obtain ⟨v13, e14, h⟩ := wp_lt h
        refine rs_topi e14 ?_
        refine dl_ist wi_226_48 rfl (fun lv l5 t12 => ?_)
        have l0 := t12 _ _ (by decide) (Or.inl rfl) l0
        have l2 := t12 _ _ (by decide) (Or.inl rfl) l2
        have l3 := t12 _ _ (by decide) (Or.inl rfl) l3
        have l4 := t12 _ _ (by decide) (Or.inl rfl) l4
        refine rs_aldn wi_226_50 l0 ?_
        refine rs_ildn wi_226_51 l3 ?_
        refine rs_aldn wi_226_52 l0 ?_
        refine dq_gr wi_226_53 wf_226_29 tf_133_5 ?_
        refine rs_ild wi_226_56 l5 ?_
        obtain ⟨g15, h⟩ := wp_gd h
        refine dq_lald wi_226_58 t_139 g15 ?_
        refine rs_aldn wi_226_59 l0 ?_
        refine dq_gr wi_226_60 wf_226_32 tf_133_6 ?_
        refine rs_ild wi_226_63 l5 ?_
        obtain ⟨g16, h⟩ := wp_gd h
        refine dq_bald wi_226_65 t_140 g16 ?_
        refine rs_aldn wi_226_66 l0 ?_
        refine dq_gr wi_226_67 wf_226_36 tf_133_7 ?_
        refine rs_ild wi_226_70 l5 ?_
        obtain ⟨g17, h⟩ := wp_gd h
        refine dq_lald wi_226_72 t_141 g17 ?_
        refine rs_V wi_226_73 wc_226_68 rfl (dq_isa tf_133_0 wa_7_225) (Nat.le_trans (by decide) hF) (ml_le wm_225 (Nat.le_trans (by decide) hLo)) rfl (sp_225 hw (Nat.le_trans (by decide : 0 ≤ 1 - 1) (Nat.sub_le_sub_right hF 1)) (ml_sub wm_225 (Nat.le_trans (by decide : 0 ≤ 27 - 27) (Nat.sub_le_sub_right hLo 27))) (wp_bind h) (fun r18 h => rs_back0 ?_))
        obtain ⟨v20, e21, h⟩ := wp_lt h
        refine dl_inc wi_226_76 l4 rfl e21 (fun lv l4 t19 => ?_)
        have l0 := t19 _ _ (by decide) (Or.inl rfl) l0
        have l2 := t19 _ _ (by decide) (Or.inl rfl) l2
        have l3 := t19 _ _ (by decide) (Or.inl rfl) l3
        refine rs_goto (tg := 31) wi_226_79 ⟨by decide, by decide⟩ ?_
        exact h _ l0 l2 l3 l4
    ·
      intro x22 h lv
      exact hj82 _ h _
theorem wa_7_226 : rz_cn 7 (rx_yn (rt_P sc fm) 226).cls = true := (by decide +kernel : rz_cn 7 (rt_yn 226).cls = true)
theorem wc_195_203 : rx_ct (rt_P sc fm) 195 203 = some (0, 229, 2) := (by decide +kernel : rt_ct 195 203 = some (0, 229, 2))
theorem wc_195_207 : rx_ct (rt_P sc fm) 195 207 = some (0, 226, 2) := (by decide +kernel : rt_ct 195 207 = some (0, 226, 2))
theorem wc_195_210 : rx_ct (rt_P sc fm) 195 210 = some (0, 178, 2) := (by decide +kernel : rt_ct 195 210 = some (0, 178, 2))
theorem wf_195_29 : rx_ft (rt_P sc fm) 195 29 = some (4, 2) := (by decide +kernel : rt_ft 195 29 = some (4, 2))
theorem wf_195_59 : rx_ft (rt_P sc fm) 195 59 = some (7, 8) := (by decide +kernel : rt_ft 195 59 = some (7, 8))
theorem wf_195_64 : rx_ft (rt_P sc fm) 195 64 = some (7, 10) := (by decide +kernel : rt_ft 195 64 = some (7, 10))
theorem wf_195_70 : rx_ft (rt_P sc fm) 195 70 = some (7, 0) := (by decide +kernel : rt_ft 195 70 = some (7, 0))
theorem wf_195_78 : rx_ft (rt_P sc fm) 195 78 = some (7, 4) := (by decide +kernel : rt_ft 195 78 = some (7, 4))
theorem wi_195_0 : ri (rt_P sc fm) 195 0 (.aload_n 0) (1) := ri_of (by decide +kernel) rfl
theorem wi_195_1 : ri (rt_P sc fm) 195 1 (.getfield 29) (4) := ri_of (by decide +kernel) rfl
theorem wi_195_10 : ri (rt_P sc fm) 195 10 (.aload_n 0) (11) := ri_of (by decide +kernel) rfl
theorem wi_195_101 : ri (rt_P sc fm) 195 101 (.aload_n 0) (102) := ri_of (by decide +kernel) rfl
theorem wi_195_102 : ri (rt_P sc fm) 195 102 (.iload_n 1) (103) := ri_of (by decide +kernel) rfl
theorem wi_195_103 : ri (rt_P sc fm) 195 103 (.iconst 0) (104) := ri_of (by decide +kernel) rfl
theorem wi_195_104 : ri (rt_P sc fm) 195 104 (.invokevirtual 210) (107) := ri_of (by decide +kernel) rfl
theorem wi_195_107 : ri (rt_P sc fm) 195 107 (.aload_n 0) (108) := ri_of (by decide +kernel) rfl
theorem wi_195_108 : ri (rt_P sc fm) 195 108 (.getfield 29) (111) := ri_of (by decide +kernel) rfl
theorem wi_195_11 : ri (rt_P sc fm) 195 11 (.getfield 29) (14) := ri_of (by decide +kernel) rfl
theorem wi_195_111 : ri (rt_P sc fm) 195 111 (.getfield 64) (114) := ri_of (by decide +kernel) rfl
theorem wi_195_114 : ri (rt_P sc fm) 195 114 (.iload_n 1) (115) := ri_of (by decide +kernel) rfl
theorem wi_195_115 : ri (rt_P sc fm) 195 115 (.iaload) (116) := ri_of (by decide +kernel) rfl
theorem wi_195_116 : ri (rt_P sc fm) 195 116 (.iload_n 3) (117) := ri_of (by decide +kernel) rfl
theorem wi_195_117 : ri (rt_P sc fm) 195 117 (.if_icmp .le 7) (120) := ri_of (by decide +kernel) rfl
theorem wi_195_120 : ri (rt_P sc fm) 195 120 (.iconst 1) (121) := ri_of (by decide +kernel) rfl
theorem wi_195_121 : ri (rt_P sc fm) 195 121 (.goto 4) (124) := ri_of (by decide +kernel) rfl
theorem wi_195_124 : ri (rt_P sc fm) 195 124 (.iconst 0) (125) := ri_of (by decide +kernel) rfl
theorem wi_195_125 : ri (rt_P sc fm) 195 125 (.ireturn) (126) := ri_of (by decide +kernel) rfl
theorem wi_195_14 : ri (rt_P sc fm) 195 14 (.getfield 59) (17) := ri_of (by decide +kernel) rfl
theorem wi_195_17 : ri (rt_P sc fm) 195 17 (.iload_n 2) (18) := ri_of (by decide +kernel) rfl
theorem wi_195_18 : ri (rt_P sc fm) 195 18 (.iaload) (19) := ri_of (by decide +kernel) rfl
theorem wi_195_19 : ri (rt_P sc fm) 195 19 (.istore 4) (21) := ri_of (by decide +kernel) rfl
theorem wi_195_21 : ri (rt_P sc fm) 195 21 (.iconst 0) (22) := ri_of (by decide +kernel) rfl
theorem wi_195_22 : ri (rt_P sc fm) 195 22 (.istore 5) (24) := ri_of (by decide +kernel) rfl
theorem wi_195_24 : ri (rt_P sc fm) 195 24 (.iload 5) (26) := ri_of (by decide +kernel) rfl
theorem wi_195_26 : ri (rt_P sc fm) 195 26 (.aload_n 0) (27) := ri_of (by decide +kernel) rfl
theorem wi_195_27 : ri (rt_P sc fm) 195 27 (.getfield 29) (30) := ri_of (by decide +kernel) rfl
theorem wi_195_30 : ri (rt_P sc fm) 195 30 (.getfield 64) (33) := ri_of (by decide +kernel) rfl
theorem wi_195_33 : ri (rt_P sc fm) 195 33 (.iload_n 2) (34) := ri_of (by decide +kernel) rfl
theorem wi_195_34 : ri (rt_P sc fm) 195 34 (.iaload) (35) := ri_of (by decide +kernel) rfl
theorem wi_195_35 : ri (rt_P sc fm) 195 35 (.if_icmp .ge 66) (38) := ri_of (by decide +kernel) rfl
theorem wi_195_38 : ri (rt_P sc fm) 195 38 (.aload_n 0) (39) := ri_of (by decide +kernel) rfl
theorem wi_195_39 : ri (rt_P sc fm) 195 39 (.getfield 29) (42) := ri_of (by decide +kernel) rfl
theorem wi_195_4 : ri (rt_P sc fm) 195 4 (.getfield 64) (7) := ri_of (by decide +kernel) rfl
theorem wi_195_42 : ri (rt_P sc fm) 195 42 (.getfield 64) (45) := ri_of (by decide +kernel) rfl
theorem wi_195_45 : ri (rt_P sc fm) 195 45 (.iload_n 1) (46) := ri_of (by decide +kernel) rfl
theorem wi_195_46 : ri (rt_P sc fm) 195 46 (.iaload) (47) := ri_of (by decide +kernel) rfl
theorem wi_195_47 : ri (rt_P sc fm) 195 47 (.bipush 20) (49) := ri_of (by decide +kernel) rfl
theorem wi_195_49 : ri (rt_P sc fm) 195 49 (.if_icmp .ge 34) (52) := ri_of (by decide +kernel) rfl
theorem wi_195_52 : ri (rt_P sc fm) 195 52 (.aload_n 0) (53) := ri_of (by decide +kernel) rfl
theorem wi_195_53 : ri (rt_P sc fm) 195 53 (.getfield 29) (56) := ri_of (by decide +kernel) rfl
theorem wi_195_56 : ri (rt_P sc fm) 195 56 (.iload_n 1) (57) := ri_of (by decide +kernel) rfl
theorem wi_195_57 : ri (rt_P sc fm) 195 57 (.aload_n 0) (58) := ri_of (by decide +kernel) rfl
theorem wi_195_58 : ri (rt_P sc fm) 195 58 (.getfield 29) (61) := ri_of (by decide +kernel) rfl
theorem wi_195_61 : ri (rt_P sc fm) 195 61 (.getfield 70) (64) := ri_of (by decide +kernel) rfl
theorem wi_195_64 : ri (rt_P sc fm) 195 64 (.iload 4) (66) := ri_of (by decide +kernel) rfl
theorem wi_195_66 : ri (rt_P sc fm) 195 66 (.laload) (67) := ri_of (by decide +kernel) rfl
theorem wi_195_67 : ri (rt_P sc fm) 195 67 (.invokevirtual 203) (70) := ri_of (by decide +kernel) rfl
theorem wi_195_7 : ri (rt_P sc fm) 195 7 (.iload_n 1) (8) := ri_of (by decide +kernel) rfl
theorem wi_195_70 : ri (rt_P sc fm) 195 70 (.ifCond .ne 13) (73) := ri_of (by decide +kernel) rfl
theorem wi_195_73 : ri (rt_P sc fm) 195 73 (.aload_n 0) (74) := ri_of (by decide +kernel) rfl
theorem wi_195_74 : ri (rt_P sc fm) 195 74 (.getfield 29) (77) := ri_of (by decide +kernel) rfl
theorem wi_195_77 : ri (rt_P sc fm) 195 77 (.iload_n 1) (78) := ri_of (by decide +kernel) rfl
theorem wi_195_78 : ri (rt_P sc fm) 195 78 (.iload 4) (80) := ri_of (by decide +kernel) rfl
theorem wi_195_8 : ri (rt_P sc fm) 195 8 (.iaload) (9) := ri_of (by decide +kernel) rfl
theorem wi_195_80 : ri (rt_P sc fm) 195 80 (.invokevirtual 207) (83) := ri_of (by decide +kernel) rfl
theorem wi_195_83 : ri (rt_P sc fm) 195 83 (.aload_n 0) (84) := ri_of (by decide +kernel) rfl
theorem wi_195_84 : ri (rt_P sc fm) 195 84 (.getfield 29) (87) := ri_of (by decide +kernel) rfl
theorem wi_195_87 : ri (rt_P sc fm) 195 87 (.getfield 78) (90) := ri_of (by decide +kernel) rfl
theorem wi_195_9 : ri (rt_P sc fm) 195 9 (.istore_n 3) (10) := ri_of (by decide +kernel) rfl
theorem wi_195_90 : ri (rt_P sc fm) 195 90 (.iload 4) (92) := ri_of (by decide +kernel) rfl
theorem wi_195_92 : ri (rt_P sc fm) 195 92 (.iaload) (93) := ri_of (by decide +kernel) rfl
theorem wi_195_93 : ri (rt_P sc fm) 195 93 (.istore 4) (95) := ri_of (by decide +kernel) rfl
theorem wi_195_95 : ri (rt_P sc fm) 195 95 (.iinc 5 1) (98) := ri_of (by decide +kernel) rfl
theorem wi_195_98 : ri (rt_P sc fm) 195 98 (.goto (-74)) (101) := ri_of (by decide +kernel) rfl
theorem wm_226 : rx_ml (rt_P sc fm) 226 = 6 := (by decide +kernel : rt_ml 226 = 6)
theorem wr_195 : rx_rt (rt_P sc fm) 195 = (some FieldType.boolean) := (by decide +kernel : rt_rt 195 = (some FieldType.boolean))
/-- MarkHouse$Effects.addMarks(II)Z -/
def d_195 (n : Nat) (a1 : Int32) (a2 : Int32) (c : cS) : Option (Int32 × cS) :=
  if ib a1 2242 then
  lt ((c.1 144 (ix a1)) : Int32) (fun v3 =>
  if ib a2 2242 then
  lt ((c.1 142 (ix a2)) : Int32) (fun v7 =>
  Option.bind (whl (R := (cS)) (fun s10 : Int32 × Int32 × cS =>
    if ib a2 2242 then
    if (s10.2.2.1 144 (ix a2)) ≤ s10.2.1 then
      some (.inr s10.2.2)
    else
      if ib a1 2242 then
      jn (fun p13 : cS =>
        if ib s10.1 4096 then
        lt ((p13.1 138 (ix s10.1)) : Int32) (fun v16 =>
        lt (s10.2.1 + 1 : Int32) (fun v19 =>
        some (.inl (v16, v19, p13))))
        else none)
      (fun j83 =>
      if 20 ≤ (s10.2.2.1 144 (ix a1)) then
        j83 s10.2.2
      else
        if ib s10.1 4096 then
        Option.bind (d_229 n a1 (s10.2.2.2 134 (ix s10.1)) s10.2.2) (fun v22 =>
        if v22 = 0 then
          Option.bind (d_226 n a1 s10.1 s10.2.2) (fun r23 =>
          j83 r23)
        else
          j83 s10.2.2)
        else none)
      else none
    else none) n (v7, 0, c))
  (fun x24 : cS =>
    Option.bind (d_178 n a1 0 x24) (fun r25 =>
    if ib a1 2242 then
    jn (fun p27 : Int32 =>
      if nb p27 then
      some (p27, r25)
      else none)
    (fun j125 =>
    if (r25.1 144 (ix a1)) ≤ v3 then
      j125 0
    else
      j125 1)
    else none)))
  else none)
  else none
theorem sp_195 {F Lo n : Nat} {a1 : Int32} {a2 : Int32} {c y : cS} {w : cW} {K : Int32 × cS → Prop} {Q : ((Option Value) ⊕ String) → List va_E → Prop} (hw : rOK fm w) (hF : 3 ≤ F) (hLo : 71 ≤ Lo)  (h : wp (d_195 n a1 a2 c) K) (hQ : ∀ r, K r → Q (.inl (some (.int r.1))) (hq true r.2 y w)) : rs (rt_P sc fm) 195 F Lo 0 [(0, .ref 146), (1, .int a1), (2, .int a2)] [] (hq true c y w) Q := by
  unfold d_195 at h
  obtain ⟨lv, elv⟩ : ∃ lv : rx_L, lv = [(0, .ref 146), (1, .int a1), (2, .int a2)] := ⟨_, rfl⟩
  rw [← elv]
  have l0 : rx_ld lv 0 = some (.ref 146) := by rw [elv]; rfl
  have l1 : rx_ld lv 1 = some (.int a1) := by rw [elv]; rfl
  have l2 : rx_ld lv 2 = some (.int a2) := by rw [elv]; rfl
  refine rs_aldn wi_195_0 l0 ?_
  refine dq_gr wi_195_1 wf_195_29 tf_146_2 ?_
  refine dq_gr wi_195_4 wf_195_64 tf_133_10 ?_
  refine rs_ildn wi_195_7 l1 ?_
  obtain ⟨g1, h⟩ := wp_gd h
  refine dq_iald wi_195_8 t_144 g1 ?_
  obtain ⟨v3, e4, h⟩ := wp_lt h
  refine rs_topi e4 ?_
  refine dl_istn wi_195_9 rfl (fun lv l3 t2 => ?_)
  have l0 := t2 _ _ (by decide) (Or.inl rfl) l0
  have l1 := t2 _ _ (by decide) (Or.inl rfl) l1
  have l2 := t2 _ _ (by decide) (Or.inl rfl) l2
  refine rs_aldn wi_195_10 l0 ?_
  refine dq_gr wi_195_11 wf_195_29 tf_146_2 ?_
  refine dq_gr wi_195_14 wf_195_59 tf_133_8 ?_
  refine rs_ildn wi_195_17 l2 ?_
  obtain ⟨g5, h⟩ := wp_gd h
  refine dq_iald wi_195_18 t_142 g5 ?_
  obtain ⟨v7, e8, h⟩ := wp_lt h
  refine rs_topi e8 ?_
  refine dl_ist wi_195_19 rfl (fun lv l4 t6 => ?_)
  have l0 := t6 _ _ (by decide) (Or.inl rfl) l0
  have l1 := t6 _ _ (by decide) (Or.inl rfl) l1
  have l2 := t6 _ _ (by decide) (Or.inl rfl) l2
  have l3 := t6 _ _ (by decide) (Or.inl rfl) l3
  refine rs_pure wi_195_21 rfl ?_
  refine rs_topi (v := 0) (by decide) ?_
  refine dl_ist wi_195_22 rfl (fun lv l5 t9 => ?_)
  have l0 := t9 _ _ (by decide) (Or.inl rfl) l0
  have l1 := t9 _ _ (by decide) (Or.inl rfl) l1
  have l2 := t9 _ _ (by decide) (Or.inl rfl) l2
  have l3 := t9 _ _ (by decide) (Or.inl rfl) l3
  have l4 := t9 _ _ (by decide) (Or.inl rfl) l4
  refine whl_ex (A := fun s10 : Int32 × Int32 × cS => ∀ lv, rx_ld lv 0 = some (.ref 146) → rx_ld lv 1 = some (.int a1) → rx_ld lv 2 = some (.int a2) → rx_ld lv 3 = some (.int v3) → rx_ld lv 4 = some (.int s10.1) → rx_ld lv 5 = some (.int s10.2.1) → rs (rt_P sc fm) 195 F Lo 24 lv [] (hq true s10.2.2 y w) Q) (B := (fun x24 : cS => ∀ lv, rx_ld lv 0 = some (.ref 146) → rx_ld lv 1 = some (.int a1) → rx_ld lv 3 = some (.int v3) → rs (rt_P sc fm) 195 F Lo 101 lv [] (hq true x24 y w) Q)) ?_ ?_ _ _ (wp_bind h) _ l0 l1 l2 l3 l4 l5
  · intro s10 h lv l0 l1 l2 l3 l4 l5
    refine rs_ild wi_195_24 l5 ?_
    refine rs_aldn wi_195_26 l0 ?_
    refine dq_gr wi_195_27 wf_195_29 tf_146_2 ?_
    refine dq_gr wi_195_30 wf_195_64 tf_133_10 ?_
    refine rs_ildn wi_195_33 l2 ?_
    obtain ⟨g11, h⟩ := wp_gd h
    refine dq_iald wi_195_34 t_144 g11 ?_
    refine rs_icge (tg := 101) wi_195_35 ⟨by decide, by decide⟩ (fun q => ?_) (fun q => ?_)
    ·
      have h := wp_pos h q
      exact h _ l0 l1 l3
    ·
      have h := wp_neg h q
      refine rs_aldn wi_195_38 l0 ?_
      refine dq_gr wi_195_39 wf_195_29 tf_146_2 ?_
      refine dq_gr wi_195_42 wf_195_64 tf_133_10 ?_
      refine rs_ildn wi_195_45 l1 ?_
      obtain ⟨g12, h⟩ := wp_gd h
      refine dq_iald wi_195_46 t_144 g12 ?_
      refine rs_pure wi_195_47 rfl ?_
      refine rs_topi (v := 20) (by decide) ?_
      refine wp_jn (B := fun p13 : cS => ∀ lv, rx_ld lv 0 = some (.ref 146) → rx_ld lv 1 = some (.int a1) → rx_ld lv 2 = some (.int a2) → rx_ld lv 3 = some (.int v3) → rx_ld lv 4 = some (.int s10.1) → rx_ld lv 5 = some (.int s10.2.1) → rs (rt_P sc fm) 195 F Lo 83 lv [] (hq true p13 y w) Q) h (fun p13 h lv l0 l1 l2 l3 l4 l5 => ?_) (fun j83 hj83 h => ?_)
      ·
        refine rs_aldn wi_195_83 l0 ?_
        refine dq_gr wi_195_84 wf_195_29 tf_146_2 ?_
        refine dq_gr wi_195_87 wf_195_78 tf_133_4 ?_
        refine rs_ild wi_195_90 l4 ?_
        obtain ⟨g14, h⟩ := wp_gd h
        refine dq_iald wi_195_92 t_138 g14 ?_
        obtain ⟨v16, e17, h⟩ := wp_lt h
        refine rs_topi e17 ?_
        refine dl_ist wi_195_93 rfl (fun lv l4 t15 => ?_)
        have l0 := t15 _ _ (by decide) (Or.inl rfl) l0
        have l1 := t15 _ _ (by decide) (Or.inl rfl) l1
        have l2 := t15 _ _ (by decide) (Or.inl rfl) l2
        have l3 := t15 _ _ (by decide) (Or.inl rfl) l3
        have l5 := t15 _ _ (by decide) (Or.inl rfl) l5
        obtain ⟨v19, e20, h⟩ := wp_lt h
        refine dl_inc wi_195_95 l5 rfl e20 (fun lv l5 t18 => ?_)
        have l0 := t18 _ _ (by decide) (Or.inl rfl) l0
        have l1 := t18 _ _ (by decide) (Or.inl rfl) l1
        have l2 := t18 _ _ (by decide) (Or.inl rfl) l2
        have l3 := t18 _ _ (by decide) (Or.inl rfl) l3
        have l4 := t18 _ _ (by decide) (Or.inl rfl) l4
        refine rs_goto (tg := 24) wi_195_98 ⟨by decide, by decide⟩ ?_
        exact h _ l0 l1 l2 l3 l4 l5
      refine rs_icge (tg := 83) wi_195_49 ⟨by decide, by decide⟩ (fun q => ?_) (fun q => ?_)
      ·
        have h := wp_pos h q
        exact hj83 _ h _ l0 l1 l2 l3 l4 l5
      ·
        have h := wp_neg h q
        refine rs_aldn wi_195_52 l0 ?_
        refine dq_gr wi_195_53 wf_195_29 tf_146_2 ?_
        refine rs_ildn wi_195_56 l1 ?_
        refine rs_aldn wi_195_57 l0 ?_
        refine dq_gr wi_195_58 wf_195_29 tf_146_2 ?_
        refine dq_gr wi_195_61 wf_195_70 tf_133_0 ?_
        refine rs_ild wi_195_64 l4 ?_
        obtain ⟨g21, h⟩ := wp_gd h
        refine dq_lald wi_195_66 t_134 g21 ?_
        refine rs_V wi_195_67 wc_195_203 rfl (dq_isa tf_133_0 wa_7_229) (Nat.le_trans (by decide) hF) (ml_le wm_229 (Nat.le_trans (by decide) hLo)) rfl (sp_229 hw (Nat.le_trans (by decide : 0 ≤ 3 - 1) (Nat.sub_le_sub_right hF 1)) (ml_sub wm_229 (Nat.le_trans (by decide : 0 ≤ 71 - 25) (Nat.sub_le_sub_right hLo 25))) (wp_bind h) (fun v22 h => rs_back1 ?_))
        refine rs_ifne (tg := 83) wi_195_70 ⟨by decide, by decide⟩ (fun q => ?_) (fun q => ?_)
        ·
          have h := wp_neg h q
          exact hj83 _ h _ l0 l1 l2 l3 l4 l5
        ·
          have h := wp_pos h q
          refine rs_aldn wi_195_73 l0 ?_
          refine dq_gr wi_195_74 wf_195_29 tf_146_2 ?_
          refine rs_ildn wi_195_77 l1 ?_
          refine rs_ild wi_195_78 l4 ?_
          refine rs_V wi_195_80 wc_195_207 rfl (dq_isa tf_133_0 wa_7_226) (Nat.le_trans (by decide) hF) (ml_le wm_226 (Nat.le_trans (by decide) hLo)) rfl (sp_226 hw (Nat.le_trans (by decide : 1 ≤ 3 - 1) (Nat.sub_le_sub_right hF 1)) (ml_sub wm_226 (Nat.le_trans (by decide : 27 ≤ 71 - 25) (Nat.sub_le_sub_right hLo 25))) (wp_bind h) (fun r23 h => rs_back0 ?_))
          exact hj83 _ h _ l0 l1 l2 l3 l4 l5
  ·
    intro x24 h lv l0 l1 l3
    refine rs_aldn wi_195_101 l0 ?_
    refine rs_ildn wi_195_102 l1 ?_
    refine rs_pure wi_195_103 rfl ?_
    refine rs_topi (v := 0) (by decide) ?_
    refine rs_V wi_195_104 wc_195_210 rfl (dq_isa tf_146_0 wa_4_178) (Nat.le_trans (by decide) hF) (ml_le wm_178 (Nat.le_trans (by decide) hLo)) rfl (sp_178 hw (Nat.le_trans (by decide : 2 ≤ 3 - 1) (Nat.sub_le_sub_right hF 1)) (ml_sub wm_178 (Nat.le_trans (by decide : 46 ≤ 71 - 25) (Nat.sub_le_sub_right hLo 25))) (wp_bind h) (fun r25 h => rs_back0 ?_))
    refine rs_aldn wi_195_107 l0 ?_
    refine dq_gr wi_195_108 wf_195_29 tf_146_2 ?_
    refine dq_gr wi_195_111 wf_195_64 tf_133_10 ?_
    refine rs_ildn wi_195_114 l1 ?_
    obtain ⟨g26, h⟩ := wp_gd h
    refine dq_iald wi_195_115 t_144 g26 ?_
    refine rs_ildn wi_195_116 l3 ?_
    refine wp_jn (B := fun p27 : Int32 => ∀ lv, rs (rt_P sc fm) 195 F Lo 125 lv [.int p27] (hq true r25 y w) Q) h (fun p27 h lv => ?_) (fun j125 hj125 h => ?_)
    ·
      obtain ⟨g28, h⟩ := wp_gd h
      exact rs_iret wi_195_125 wr_195 (nb_n g28) (hQ (p27, r25) h)
    refine rs_icle (tg := 124) wi_195_117 ⟨by decide, by decide⟩ (fun q => ?_) (fun q => ?_)
    ·
      have h := wp_pos h q
      refine rs_pure wi_195_124 rfl ?_
      refine rs_topi (v := 0) (by decide) ?_
      exact hj125 _ h _
    ·
      have h := wp_neg h q
      refine rs_pure wi_195_120 rfl ?_
      refine rs_topi (v := 1) (by decide) ?_
      refine rs_goto (tg := 125) wi_195_121 ⟨by decide, by decide⟩ ?_
      exact hj125 _ h _
theorem t_149 : ta true 149 0 6 := ⟨rfl, by decide, by decide⟩
theorem tf_146_9 : fo true 146 4 9 (.ref 149) := ⟨_, rfl, rfl, by decide, by decide⟩
theorem wa_4_195 : rz_cn 4 (rx_yn (rt_P sc fm) 195).cls = true := (by decide +kernel : rz_cn 4 (rt_yn 195).cls = true)
theorem wc_194_178 : rx_ct (rt_P sc fm) 194 178 = some (0, 180, 2) := (by decide +kernel : rt_ct 194 178 = some (0, 180, 2))
theorem wc_194_200 : rx_ct (rt_P sc fm) 194 200 = some (0, 195, 2) := (by decide +kernel : rt_ct 194 200 = some (0, 195, 2))
theorem wf_194_18 : rx_ft (rt_P sc fm) 194 18 = some (4, 9) := (by decide +kernel : rt_ft 194 18 = some (4, 9))
theorem wf_194_194 : rx_ft (rt_P sc fm) 194 194 = some (9, 7) := (by decide +kernel : rt_ft 194 194 = some (9, 7))
theorem wf_194_197 : rx_ft (rt_P sc fm) 194 197 = some (9, 6) := (by decide +kernel : rt_ft 194 197 = some (9, 6))
theorem wf_194_21 : rx_ft (rt_P sc fm) 194 21 = some (4, 0) := (by decide +kernel : rt_ft 194 21 = some (4, 0))
theorem wf_194_56 : rx_ft (rt_P sc fm) 194 56 = some (9, 10) := (by decide +kernel : rt_ft 194 56 = some (9, 10))
theorem wi_194_0 : ri (rt_P sc fm) 194 0 (.iconst 0) (1) := ri_of (by decide +kernel) rfl
theorem wi_194_1 : ri (rt_P sc fm) 194 1 (.istore_n 1) (2) := ri_of (by decide +kernel) rfl
theorem wi_194_10 : ri (rt_P sc fm) 194 10 (.if_icmp .ge 71) (13) := ri_of (by decide +kernel) rfl
theorem wi_194_100 : ri (rt_P sc fm) 194 100 (.getfield 21) (103) := ri_of (by decide +kernel) rfl
theorem wi_194_103 : ri (rt_P sc fm) 194 103 (.getfield 56) (106) := ri_of (by decide +kernel) rfl
theorem wi_194_106 : ri (rt_P sc fm) 194 106 (.if_icmp .ge 38) (109) := ri_of (by decide +kernel) rfl
theorem wi_194_109 : ri (rt_P sc fm) 194 109 (.aload_n 0) (110) := ri_of (by decide +kernel) rfl
theorem wi_194_110 : ri (rt_P sc fm) 194 110 (.getfield 18) (113) := ri_of (by decide +kernel) rfl
theorem wi_194_113 : ri (rt_P sc fm) 194 113 (.iload_n 2) (114) := ri_of (by decide +kernel) rfl
theorem wi_194_114 : ri (rt_P sc fm) 194 114 (.iaload) (115) := ri_of (by decide +kernel) rfl
theorem wi_194_115 : ri (rt_P sc fm) 194 115 (.iload_n 3) (116) := ri_of (by decide +kernel) rfl
theorem wi_194_116 : ri (rt_P sc fm) 194 116 (.ishr) (117) := ri_of (by decide +kernel) rfl
theorem wi_194_117 : ri (rt_P sc fm) 194 117 (.iconst 1) (118) := ri_of (by decide +kernel) rfl
theorem wi_194_118 : ri (rt_P sc fm) 194 118 (.iand) (119) := ri_of (by decide +kernel) rfl
theorem wi_194_119 : ri (rt_P sc fm) 194 119 (.ifCond .eq 19) (122) := ri_of (by decide +kernel) rfl
theorem wi_194_122 : ri (rt_P sc fm) 194 122 (.iload_n 1) (123) := ri_of (by decide +kernel) rfl
theorem wi_194_123 : ri (rt_P sc fm) 194 123 (.aload_n 0) (124) := ri_of (by decide +kernel) rfl
theorem wi_194_124 : ri (rt_P sc fm) 194 124 (.bipush 100) (126) := ri_of (by decide +kernel) rfl
theorem wi_194_126 : ri (rt_P sc fm) 194 126 (.iload_n 3) (127) := ri_of (by decide +kernel) rfl
theorem wi_194_127 : ri (rt_P sc fm) 194 127 (.imul) (128) := ri_of (by decide +kernel) rfl
theorem wi_194_128 : ri (rt_P sc fm) 194 128 (.sipush 1212) (131) := ri_of (by decide +kernel) rfl
theorem wi_194_13 : ri (rt_P sc fm) 194 13 (.aload_n 0) (14) := ri_of (by decide +kernel) rfl
theorem wi_194_131 : ri (rt_P sc fm) 194 131 (.iload_n 2) (132) := ri_of (by decide +kernel) rfl
theorem wi_194_132 : ri (rt_P sc fm) 194 132 (.iadd) (133) := ri_of (by decide +kernel) rfl
theorem wi_194_133 : ri (rt_P sc fm) 194 133 (.invokevirtual 200) (136) := ri_of (by decide +kernel) rfl
theorem wi_194_136 : ri (rt_P sc fm) 194 136 (.ior) (137) := ri_of (by decide +kernel) rfl
theorem wi_194_137 : ri (rt_P sc fm) 194 137 (.istore_n 1) (138) := ri_of (by decide +kernel) rfl
theorem wi_194_138 : ri (rt_P sc fm) 194 138 (.iinc 3 1) (141) := ri_of (by decide +kernel) rfl
theorem wi_194_14 : ri (rt_P sc fm) 194 14 (.getfield 18) (17) := ri_of (by decide +kernel) rfl
theorem wi_194_141 : ri (rt_P sc fm) 194 141 (.goto (-43)) (144) := ri_of (by decide +kernel) rfl
theorem wi_194_144 : ri (rt_P sc fm) 194 144 (.iinc 2 1) (147) := ri_of (by decide +kernel) rfl
theorem wi_194_147 : ri (rt_P sc fm) 194 147 (.goto (-62)) (150) := ri_of (by decide +kernel) rfl
theorem wi_194_150 : ri (rt_P sc fm) 194 150 (.iload_n 1) (151) := ri_of (by decide +kernel) rfl
theorem wi_194_151 : ri (rt_P sc fm) 194 151 (.ireturn) (152) := ri_of (by decide +kernel) rfl
theorem wi_194_17 : ri (rt_P sc fm) 194 17 (.iload_n 1) (18) := ri_of (by decide +kernel) rfl
theorem wi_194_18 : ri (rt_P sc fm) 194 18 (.iconst 0) (19) := ri_of (by decide +kernel) rfl
theorem wi_194_19 : ri (rt_P sc fm) 194 19 (.iastore) (20) := ri_of (by decide +kernel) rfl
theorem wi_194_2 : ri (rt_P sc fm) 194 2 (.iload_n 1) (3) := ri_of (by decide +kernel) rfl
theorem wi_194_20 : ri (rt_P sc fm) 194 20 (.iconst 0) (21) := ri_of (by decide +kernel) rfl
theorem wi_194_21 : ri (rt_P sc fm) 194 21 (.istore_n 2) (22) := ri_of (by decide +kernel) rfl
theorem wi_194_22 : ri (rt_P sc fm) 194 22 (.iload_n 2) (23) := ri_of (by decide +kernel) rfl
theorem wi_194_23 : ri (rt_P sc fm) 194 23 (.aload_n 0) (24) := ri_of (by decide +kernel) rfl
theorem wi_194_24 : ri (rt_P sc fm) 194 24 (.getfield 21) (27) := ri_of (by decide +kernel) rfl
theorem wi_194_27 : ri (rt_P sc fm) 194 27 (.getfield 56) (30) := ri_of (by decide +kernel) rfl
theorem wi_194_3 : ri (rt_P sc fm) 194 3 (.aload_n 0) (4) := ri_of (by decide +kernel) rfl
theorem wi_194_30 : ri (rt_P sc fm) 194 30 (.if_icmp .ge 45) (33) := ri_of (by decide +kernel) rfl
theorem wi_194_33 : ri (rt_P sc fm) 194 33 (.aload_n 0) (34) := ri_of (by decide +kernel) rfl
theorem wi_194_34 : ri (rt_P sc fm) 194 34 (.getfield 18) (37) := ri_of (by decide +kernel) rfl
theorem wi_194_37 : ri (rt_P sc fm) 194 37 (.iload_n 1) (38) := ri_of (by decide +kernel) rfl
theorem wi_194_38 : ri (rt_P sc fm) 194 38 (.dup2) (39) := ri_of (by decide +kernel) rfl
theorem wi_194_39 : ri (rt_P sc fm) 194 39 (.iaload) (40) := ri_of (by decide +kernel) rfl
theorem wi_194_4 : ri (rt_P sc fm) 194 4 (.getfield 21) (7) := ri_of (by decide +kernel) rfl
theorem wi_194_40 : ri (rt_P sc fm) 194 40 (.aload_n 0) (41) := ri_of (by decide +kernel) rfl
theorem wi_194_41 : ri (rt_P sc fm) 194 41 (.bipush 100) (43) := ri_of (by decide +kernel) rfl
theorem wi_194_43 : ri (rt_P sc fm) 194 43 (.iload_n 2) (44) := ri_of (by decide +kernel) rfl
theorem wi_194_44 : ri (rt_P sc fm) 194 44 (.imul) (45) := ri_of (by decide +kernel) rfl
theorem wi_194_45 : ri (rt_P sc fm) 194 45 (.aload_n 0) (46) := ri_of (by decide +kernel) rfl
theorem wi_194_46 : ri (rt_P sc fm) 194 46 (.getfield 21) (49) := ri_of (by decide +kernel) rfl
theorem wi_194_49 : ri (rt_P sc fm) 194 49 (.getfield 197) (52) := ri_of (by decide +kernel) rfl
theorem wi_194_52 : ri (rt_P sc fm) 194 52 (.iload_n 1) (53) := ri_of (by decide +kernel) rfl
theorem wi_194_53 : ri (rt_P sc fm) 194 53 (.iaload) (54) := ri_of (by decide +kernel) rfl
theorem wi_194_54 : ri (rt_P sc fm) 194 54 (.invokevirtual 178) (57) := ri_of (by decide +kernel) rfl
theorem wi_194_57 : ri (rt_P sc fm) 194 57 (.ifCond .le 9) (60) := ri_of (by decide +kernel) rfl
theorem wi_194_60 : ri (rt_P sc fm) 194 60 (.iconst 1) (61) := ri_of (by decide +kernel) rfl
theorem wi_194_61 : ri (rt_P sc fm) 194 61 (.iload_n 2) (62) := ri_of (by decide +kernel) rfl
theorem wi_194_62 : ri (rt_P sc fm) 194 62 (.ishl) (63) := ri_of (by decide +kernel) rfl
theorem wi_194_63 : ri (rt_P sc fm) 194 63 (.goto 4) (66) := ri_of (by decide +kernel) rfl
theorem wi_194_66 : ri (rt_P sc fm) 194 66 (.iconst 0) (67) := ri_of (by decide +kernel) rfl
theorem wi_194_67 : ri (rt_P sc fm) 194 67 (.ior) (68) := ri_of (by decide +kernel) rfl
theorem wi_194_68 : ri (rt_P sc fm) 194 68 (.iastore) (69) := ri_of (by decide +kernel) rfl
theorem wi_194_69 : ri (rt_P sc fm) 194 69 (.iinc 2 1) (72) := ri_of (by decide +kernel) rfl
theorem wi_194_7 : ri (rt_P sc fm) 194 7 (.getfield 194) (10) := ri_of (by decide +kernel) rfl
theorem wi_194_72 : ri (rt_P sc fm) 194 72 (.goto (-50)) (75) := ri_of (by decide +kernel) rfl
theorem wi_194_75 : ri (rt_P sc fm) 194 75 (.iinc 1 1) (78) := ri_of (by decide +kernel) rfl
theorem wi_194_78 : ri (rt_P sc fm) 194 78 (.goto (-76)) (81) := ri_of (by decide +kernel) rfl
theorem wi_194_81 : ri (rt_P sc fm) 194 81 (.iconst 0) (82) := ri_of (by decide +kernel) rfl
theorem wi_194_82 : ri (rt_P sc fm) 194 82 (.istore_n 1) (83) := ri_of (by decide +kernel) rfl
theorem wi_194_83 : ri (rt_P sc fm) 194 83 (.iconst 0) (84) := ri_of (by decide +kernel) rfl
theorem wi_194_84 : ri (rt_P sc fm) 194 84 (.istore_n 2) (85) := ri_of (by decide +kernel) rfl
theorem wi_194_85 : ri (rt_P sc fm) 194 85 (.iload_n 2) (86) := ri_of (by decide +kernel) rfl
theorem wi_194_86 : ri (rt_P sc fm) 194 86 (.aload_n 0) (87) := ri_of (by decide +kernel) rfl
theorem wi_194_87 : ri (rt_P sc fm) 194 87 (.getfield 21) (90) := ri_of (by decide +kernel) rfl
theorem wi_194_90 : ri (rt_P sc fm) 194 90 (.getfield 194) (93) := ri_of (by decide +kernel) rfl
theorem wi_194_93 : ri (rt_P sc fm) 194 93 (.if_icmp .ge 57) (96) := ri_of (by decide +kernel) rfl
theorem wi_194_96 : ri (rt_P sc fm) 194 96 (.iconst 0) (97) := ri_of (by decide +kernel) rfl
theorem wi_194_97 : ri (rt_P sc fm) 194 97 (.istore_n 3) (98) := ri_of (by decide +kernel) rfl
theorem wi_194_98 : ri (rt_P sc fm) 194 98 (.iload_n 3) (99) := ri_of (by decide +kernel) rfl
theorem wi_194_99 : ri (rt_P sc fm) 194 99 (.aload_n 0) (100) := ri_of (by decide +kernel) rfl
theorem wm_195 : rx_ml (rt_P sc fm) 195 = 6 := (by decide +kernel : rt_ml 195 = 6)
theorem wr_194 : rx_rt (rt_P sc fm) 194 = (some FieldType.boolean) := (by decide +kernel : rt_rt 194 = (some FieldType.boolean))
/-- MarkHouse$Effects.makeRound()Z -/
def d_194 (n : Nat)  (c : cS) : Option (Int32 × cS) :=
  Option.bind (whl (R := (cS)) (fun s2 : Int32 × cS =>
    if (s2.2.1 7 7) ≤ s2.1 then
      some (.inr s2.2)
    else
      if ib s2.1 6 then
      lt (pI s2.2 149 (ix s2.1) 0) (fun c4 =>
      Option.bind (whl (R := (cS)) (fun s7 : Int32 × cS =>
        if (s7.2.1 7 10) ≤ s7.1 then
          some (.inr s7.2)
        else
          if ib s2.1 6 then
          if ib s2.1 6 then
          Option.bind (d_180 n (100 * s7.1) (s7.2.1 11 (ix s2.1)) s7.2) (fun r10 =>
          jn (fun p11 : Int32 =>
            if ib s2.1 6 then
            lt (pI r10.2 149 (ix s2.1) ((s7.2.1 149 (ix s2.1)) ||| p11)) (fun c13 =>
            lt (s7.1 + 1 : Int32) (fun v16 =>
            some (.inl (v16, c13))))
            else none)
          (fun j67 =>
          if r10.1 ≤ 0 then
            j67 0
          else
            j67 (1 <<< (s7.1 &&& 31))))
          else none
          else none) n (0, c4))
      (fun x18 : cS =>
        lt (s2.1 + 1 : Int32) (fun v20 =>
        some (.inl (v20, x18)))))
      else none) n (0, c))
  (fun x22 : cS =>
    Option.bind (whl (R := (Int32 × cS)) (fun s25 : Int32 × Int32 × cS =>
      if (s25.2.2.1 7 7) ≤ s25.2.1 then
        some (.inr (s25.1, s25.2.2))
      else
        Option.bind (whl (R := (Int32 × cS)) (fun s27 : Int32 × Int32 × cS =>
          if (s27.2.2.1 7 10) ≤ s27.2.1 then
            some (.inr (s27.1, s27.2.2))
          else
            if ib s25.2.1 6 then
            jn (fun p29 : Int32 × cS =>
              lt (s27.2.1 + 1 : Int32) (fun v31 =>
              some (.inl (p29.1, v31, p29.2))))
            (fun j138 =>
            if (((s27.2.2.1 149 (ix s25.2.1)) >>> (s27.2.1 &&& 31)) &&& 1) = 0 then
              j138 (s27.1, s27.2.2)
            else
              Option.bind (d_195 n (100 * s27.2.1) (1212 + s25.2.1) s27.2.2) (fun r33 =>
              lt ((s27.1 ||| r33.1) : Int32) (fun v35 =>
              j138 (v35, r33.2))))
            else none) n (s25.1, 0, s25.2.2))
        (fun x37 : Int32 × cS =>
          lt (s25.2.1 + 1 : Int32) (fun v39 =>
          some (.inl (x37.1, v39, x37.2))))) n (0, 0, x22))
    (fun x41 : Int32 × cS =>
      if nb x41.1 then
      some (x41.1, x41.2)
      else none))
theorem sp_194 {F Lo n : Nat}  {c y : cS} {w : cW} {K : Int32 × cS → Prop} {Q : ((Option Value) ⊕ String) → List va_E → Prop} (hw : rOK fm w) (hF : 4 ≤ F) (hLo : 100 ≤ Lo)  (h : wp (d_194 n  c) K) (hQ : ∀ r, K r → Q (.inl (some (.int r.1))) (hq true r.2 y w)) : rs (rt_P sc fm) 194 F Lo 0 [(0, .ref 146)] [] (hq true c y w) Q := by
  unfold d_194 at h
  obtain ⟨lv, elv⟩ : ∃ lv : rx_L, lv = [(0, .ref 146)] := ⟨_, rfl⟩
  rw [← elv]
  have l0 : rx_ld lv 0 = some (.ref 146) := by rw [elv]; rfl
  refine rs_pure wi_194_0 rfl ?_
  refine rs_topi (v := 0) (by decide) ?_
  refine dl_istn wi_194_1 rfl (fun lv l1 t1 => ?_)
  have l0 := t1 _ _ (by decide) (Or.inl rfl) l0
  refine whl_ex (A := fun s2 : Int32 × cS => ∀ lv, rx_ld lv 0 = some (.ref 146) → rx_ld lv 1 = some (.int s2.1) → rs (rt_P sc fm) 194 F Lo 2 lv [] (hq true s2.2 y w) Q) (B := (fun x22 : cS => ∀ lv, rx_ld lv 0 = some (.ref 146) → rs (rt_P sc fm) 194 F Lo 81 lv [] (hq true x22 y w) Q)) ?_ ?_ _ _ (wp_bind h) _ l0 l1
  · intro s2 h lv l0 l1
    refine rs_ildn wi_194_2 l1 ?_
    refine rs_aldn wi_194_3 l0 ?_
    refine dq_gr wi_194_4 wf_194_21 tf_146_0 ?_
    refine dq_gi wi_194_7 wf_194_194 tf_7_7 ?_
    refine rs_icge (tg := 81) wi_194_10 ⟨by decide, by decide⟩ (fun q => ?_) (fun q => ?_)
    ·
      have h := wp_pos h q
      exact h _ l0
    ·
      have h := wp_neg h q
      refine rs_aldn wi_194_13 l0 ?_
      refine dq_gr wi_194_14 wf_194_18 tf_146_9 ?_
      refine rs_ildn wi_194_17 l1 ?_
      refine rs_pure wi_194_18 rfl ?_
      refine rs_topi (v := 0) (by decide) ?_
      obtain ⟨g3, h⟩ := wp_gd h
      obtain ⟨c4, e5, h⟩ := wp_lt h
      refine dq_iast wi_194_19 t_149 g3 e5 ?_
      refine rs_pure wi_194_20 rfl ?_
      refine rs_topi (v := 0) (by decide) ?_
      refine dl_istn wi_194_21 rfl (fun lv l2 t6 => ?_)
      have l0 := t6 _ _ (by decide) (Or.inl rfl) l0
      have l1 := t6 _ _ (by decide) (Or.inl rfl) l1
      refine whl_ex (A := fun s7 : Int32 × cS => ∀ lv, rx_ld lv 0 = some (.ref 146) → rx_ld lv 1 = some (.int s2.1) → rx_ld lv 2 = some (.int s7.1) → rs (rt_P sc fm) 194 F Lo 22 lv [] (hq true s7.2 y w) Q) (B := (fun x18 : cS => ∀ lv, rx_ld lv 0 = some (.ref 146) → rx_ld lv 1 = some (.int s2.1) → rs (rt_P sc fm) 194 F Lo 75 lv [] (hq true x18 y w) Q)) ?_ ?_ _ _ (wp_bind h) _ l0 l1 l2
      · intro s7 h lv l0 l1 l2
        refine rs_ildn wi_194_22 l2 ?_
        refine rs_aldn wi_194_23 l0 ?_
        refine dq_gr wi_194_24 wf_194_21 tf_146_0 ?_
        refine dq_gi wi_194_27 wf_194_56 tf_7_10 ?_
        refine rs_icge (tg := 75) wi_194_30 ⟨by decide, by decide⟩ (fun q => ?_) (fun q => ?_)
        ·
          have h := wp_pos h q
          exact h _ l0 l1
        ·
          have h := wp_neg h q
          refine rs_aldn wi_194_33 l0 ?_
          refine dq_gr wi_194_34 wf_194_18 tf_146_9 ?_
          refine rs_ildn wi_194_37 l1 ?_
          refine rs_pure wi_194_38 rfl ?_
          obtain ⟨g8, h⟩ := wp_gd h
          refine dq_iald wi_194_39 t_149 g8 ?_
          refine rs_aldn wi_194_40 l0 ?_
          refine rs_pure wi_194_41 rfl ?_
          refine rs_topi (v := 100) (by decide) ?_
          refine rs_ildn wi_194_43 l2 ?_
          refine rs_pure wi_194_44 rfl ?_
          refine rs_aldn wi_194_45 l0 ?_
          refine dq_gr wi_194_46 wf_194_21 tf_146_0 ?_
          refine dq_gr wi_194_49 wf_194_197 tf_7_6 ?_
          refine rs_ildn wi_194_52 l1 ?_
          obtain ⟨g9, h⟩ := wp_gd h
          refine dq_iald wi_194_53 t_11 g9 ?_
          refine rs_V wi_194_54 wc_194_178 rfl (dq_isa tf_146_0 wa_4_180) (Nat.le_trans (by decide) hF) (ml_le wm_180 (Nat.le_trans (by decide) hLo)) rfl (sp_180 hw (Nat.le_trans (by decide : 3 ≤ 4 - 1) (Nat.sub_le_sub_right hF 1)) (ml_sub wm_180 (Nat.le_trans (by decide : 75 ≤ 100 - 25) (Nat.sub_le_sub_right hLo 25))) (wp_bind h) (fun r10 h => rs_back1 ?_))
          refine wp_jn (B := fun p11 : Int32 => ∀ lv, rx_ld lv 0 = some (.ref 146) → rx_ld lv 1 = some (.int s2.1) → rx_ld lv 2 = some (.int s7.1) → rs (rt_P sc fm) 194 F Lo 67 lv [.int p11, .int (s7.2.1 149 (ix s2.1)), .int s2.1, .ref 149] (hq true r10.2 y w) Q) h (fun p11 h lv l0 l1 l2 => ?_) (fun j67 hj67 h => ?_)
          ·
            refine rs_pure wi_194_67 rfl ?_
            obtain ⟨g12, h⟩ := wp_gd h
            obtain ⟨c13, e14, h⟩ := wp_lt h
            refine dq_iast wi_194_68 t_149 g12 e14 ?_
            obtain ⟨v16, e17, h⟩ := wp_lt h
            refine dl_inc wi_194_69 l2 rfl e17 (fun lv l2 t15 => ?_)
            have l0 := t15 _ _ (by decide) (Or.inl rfl) l0
            have l1 := t15 _ _ (by decide) (Or.inl rfl) l1
            refine rs_goto (tg := 22) wi_194_72 ⟨by decide, by decide⟩ ?_
            exact h _ l0 l1 l2
          refine rs_ifle (tg := 66) wi_194_57 ⟨by decide, by decide⟩ (fun q => ?_) (fun q => ?_)
          ·
            have h := wp_pos h q
            refine rs_pure wi_194_66 rfl ?_
            refine rs_topi (v := 0) (by decide) ?_
            exact hj67 _ h _ l0 l1 l2
          ·
            have h := wp_neg h q
            refine rs_pure wi_194_60 rfl ?_
            refine rs_topi (v := 1) (by decide) ?_
            refine rs_ildn wi_194_61 l2 ?_
            refine rs_pure wi_194_62 rfl ?_
            refine rs_goto (tg := 67) wi_194_63 ⟨by decide, by decide⟩ ?_
            exact hj67 _ h _ l0 l1 l2
      ·
        intro x18 h lv l0 l1
        obtain ⟨v20, e21, h⟩ := wp_lt h
        refine dl_inc wi_194_75 l1 rfl e21 (fun lv l1 t19 => ?_)
        have l0 := t19 _ _ (by decide) (Or.inl rfl) l0
        refine rs_goto (tg := 2) wi_194_78 ⟨by decide, by decide⟩ ?_
        exact h _ l0 l1
  ·
    intro x22 h lv l0
    refine rs_pure wi_194_81 rfl ?_
    refine rs_topi (v := 0) (by decide) ?_
    refine dl_istn wi_194_82 rfl (fun lv l1 t23 => ?_)
    have l0 := t23 _ _ (by decide) (Or.inl rfl) l0
    refine rs_pure wi_194_83 rfl ?_
    refine rs_topi (v := 0) (by decide) ?_
    refine dl_istn wi_194_84 rfl (fun lv l2 t24 => ?_)
    have l0 := t24 _ _ (by decide) (Or.inl rfl) l0
    have l1 := t24 _ _ (by decide) (Or.inl rfl) l1
    refine whl_ex (A := fun s25 : Int32 × Int32 × cS => ∀ lv, rx_ld lv 0 = some (.ref 146) → rx_ld lv 1 = some (.int s25.1) → rx_ld lv 2 = some (.int s25.2.1) → rs (rt_P sc fm) 194 F Lo 85 lv [] (hq true s25.2.2 y w) Q) (B := (fun x41 : Int32 × cS => ∀ lv, rx_ld lv 1 = some (.int x41.1) → rs (rt_P sc fm) 194 F Lo 150 lv [] (hq true x41.2 y w) Q)) ?_ ?_ _ _ (wp_bind h) _ l0 l1 l2
    · intro s25 h lv l0 l1 l2
      refine rs_ildn wi_194_85 l2 ?_
      refine rs_aldn wi_194_86 l0 ?_
      refine dq_gr wi_194_87 wf_194_21 tf_146_0 ?_
      refine dq_gi wi_194_90 wf_194_194 tf_7_7 ?_
      refine rs_icge (tg := 150) wi_194_93 ⟨by decide, by decide⟩ (fun q => ?_) (fun q => ?_)
      ·
        have h := wp_pos h q
        exact h _ l1
      ·
        have h := wp_neg h q
        refine rs_pure wi_194_96 rfl ?_
        refine rs_topi (v := 0) (by decide) ?_
        refine dl_istn wi_194_97 rfl (fun lv l3 t26 => ?_)
        have l0 := t26 _ _ (by decide) (Or.inl rfl) l0
        have l1 := t26 _ _ (by decide) (Or.inl rfl) l1
        have l2 := t26 _ _ (by decide) (Or.inl rfl) l2
        refine whl_ex (A := fun s27 : Int32 × Int32 × cS => ∀ lv, rx_ld lv 0 = some (.ref 146) → rx_ld lv 1 = some (.int s27.1) → rx_ld lv 2 = some (.int s25.2.1) → rx_ld lv 3 = some (.int s27.2.1) → rs (rt_P sc fm) 194 F Lo 98 lv [] (hq true s27.2.2 y w) Q) (B := (fun x37 : Int32 × cS => ∀ lv, rx_ld lv 0 = some (.ref 146) → rx_ld lv 1 = some (.int x37.1) → rx_ld lv 2 = some (.int s25.2.1) → rs (rt_P sc fm) 194 F Lo 144 lv [] (hq true x37.2 y w) Q)) ?_ ?_ _ _ (wp_bind h) _ l0 l1 l2 l3
        · intro s27 h lv l0 l1 l2 l3
          refine rs_ildn wi_194_98 l3 ?_
          refine rs_aldn wi_194_99 l0 ?_
          refine dq_gr wi_194_100 wf_194_21 tf_146_0 ?_
          refine dq_gi wi_194_103 wf_194_56 tf_7_10 ?_
          refine rs_icge (tg := 144) wi_194_106 ⟨by decide, by decide⟩ (fun q => ?_) (fun q => ?_)
          ·
            have h := wp_pos h q
            exact h _ l0 l1 l2
          ·
            have h := wp_neg h q
            refine rs_aldn wi_194_109 l0 ?_
            refine dq_gr wi_194_110 wf_194_18 tf_146_9 ?_
            refine rs_ildn wi_194_113 l2 ?_
            obtain ⟨g28, h⟩ := wp_gd h
            refine dq_iald wi_194_114 t_149 g28 ?_
            refine rs_ildn wi_194_115 l3 ?_
            refine rs_pure wi_194_116 rfl ?_
            refine rs_pure wi_194_117 rfl ?_
            refine rs_topi (v := 1) (by decide) ?_
            refine rs_pure wi_194_118 rfl ?_
            refine wp_jn (B := fun p29 : Int32 × cS => ∀ lv, rx_ld lv 0 = some (.ref 146) → rx_ld lv 1 = some (.int p29.1) → rx_ld lv 2 = some (.int s25.2.1) → rx_ld lv 3 = some (.int s27.2.1) → rs (rt_P sc fm) 194 F Lo 138 lv [] (hq true p29.2 y w) Q) h (fun p29 h lv l0 l1 l2 l3 => ?_) (fun j138 hj138 h => ?_)
            ·
              obtain ⟨v31, e32, h⟩ := wp_lt h
              refine dl_inc wi_194_138 l3 rfl e32 (fun lv l3 t30 => ?_)
              have l0 := t30 _ _ (by decide) (Or.inl rfl) l0
              have l1 := t30 _ _ (by decide) (Or.inl rfl) l1
              have l2 := t30 _ _ (by decide) (Or.inl rfl) l2
              refine rs_goto (tg := 98) wi_194_141 ⟨by decide, by decide⟩ ?_
              exact h _ l0 l1 l2 l3
            refine rs_ifeq (tg := 138) wi_194_119 ⟨by decide, by decide⟩ (fun q => ?_) (fun q => ?_)
            ·
              have h := wp_pos h q
              exact hj138 _ h _ l0 l1 l2 l3
            ·
              have h := wp_neg h q
              refine rs_ildn wi_194_122 l1 ?_
              refine rs_aldn wi_194_123 l0 ?_
              refine rs_pure wi_194_124 rfl ?_
              refine rs_topi (v := 100) (by decide) ?_
              refine rs_ildn wi_194_126 l3 ?_
              refine rs_pure wi_194_127 rfl ?_
              refine rs_pure wi_194_128 rfl ?_
              refine rs_topi (v := 1212) (by decide) ?_
              refine rs_ildn wi_194_131 l2 ?_
              refine rs_pure wi_194_132 rfl ?_
              refine rs_V wi_194_133 wc_194_200 rfl (dq_isa tf_146_0 wa_4_195) (Nat.le_trans (by decide) hF) (ml_le wm_195 (Nat.le_trans (by decide) hLo)) rfl (sp_195 hw (Nat.le_trans (by decide : 3 ≤ 4 - 1) (Nat.sub_le_sub_right hF 1)) (ml_sub wm_195 (Nat.le_trans (by decide : 71 ≤ 100 - 25) (Nat.sub_le_sub_right hLo 25))) (wp_bind h) (fun r33 h => rs_back1 ?_))
              refine rs_pure wi_194_136 rfl ?_
              obtain ⟨v35, e36, h⟩ := wp_lt h
              refine rs_topi e36 ?_
              refine dl_istn wi_194_137 rfl (fun lv l1 t34 => ?_)
              have l0 := t34 _ _ (by decide) (Or.inl rfl) l0
              have l2 := t34 _ _ (by decide) (Or.inl rfl) l2
              have l3 := t34 _ _ (by decide) (Or.inl rfl) l3
              exact hj138 _ h _ l0 l1 l2 l3
        ·
          intro x37 h lv l0 l1 l2
          obtain ⟨v39, e40, h⟩ := wp_lt h
          refine dl_inc wi_194_144 l2 rfl e40 (fun lv l2 t38 => ?_)
          have l0 := t38 _ _ (by decide) (Or.inl rfl) l0
          have l1 := t38 _ _ (by decide) (Or.inl rfl) l1
          refine rs_goto (tg := 85) wi_194_147 ⟨by decide, by decide⟩ ?_
          exact h _ l0 l1 l2
    ·
      intro x41 h lv l1
      refine rs_ildn wi_194_150 l1 ?_
      obtain ⟨g42, h⟩ := wp_gd h
      exact rs_iret wi_194_151 wr_194 (nb_n g42) (hQ (x41.1, x41.2) h)
end D48
