/-! THE CODE AS PURE PROGRAMS, 13: by wip/whole/dc.py -/
section D54
variable {sc : Nat × (Nat → Int32)} {fm : Value}
theorem t_219 : ta false 219 0 3840 := ⟨rfl, by decide, by decide⟩
theorem t_220 : ta false 220 0 15360 := ⟨rfl, by decide, by decide⟩
theorem t_221 : ta false 221 0 15360 := ⟨rfl, by decide, by decide⟩
theorem tf_174_57 : fo false 174 15 57 (.ref 219) := ⟨_, rfl, rfl, by decide, by decide⟩
theorem tf_174_58 : fo false 174 15 58 (.ref 220) := ⟨_, rfl, rfl, by decide, by decide⟩
theorem tf_174_59 : fo false 174 15 59 (.ref 221) := ⟨_, rfl, rfl, by decide, by decide⟩
theorem wc_411_459 : rx_ct (rt_P sc fm) 411 459 = some (0, 372, 1) := (by decide +kernel : rt_ct 411 459 = some (0, 372, 1))
theorem wc_411_513 : rx_ct (rt_P sc fm) 411 513 = some (0, 377, 2) := (by decide +kernel : rt_ct 411 513 = some (0, 377, 2))
theorem wc_411_543 : rx_ct (rt_P sc fm) 411 543 = some (0, 392, 2) := (by decide +kernel : rt_ct 411 543 = some (0, 392, 2))
theorem wc_411_581 : rx_ct (rt_P sc fm) 411 581 = some (0, 396, 4) := (by decide +kernel : rt_ct 411 581 = some (0, 396, 4))
theorem wf_411_209 : rx_ft (rt_P sc fm) 411 209 = some (15, 57) := (by decide +kernel : rt_ft 411 209 = some (15, 57))
theorem wf_411_212 : rx_ft (rt_P sc fm) 411 212 = some (15, 58) := (by decide +kernel : rt_ft 411 212 = some (15, 58))
theorem wf_411_215 : rx_ft (rt_P sc fm) 411 215 = some (15, 59) := (by decide +kernel : rt_ft 411 215 = some (15, 59))
theorem wf_411_218 : rx_ft (rt_P sc fm) 411 218 = some (15, 60) := (by decide +kernel : rt_ft 411 218 = some (15, 60))
theorem wf_411_221 : rx_ft (rt_P sc fm) 411 221 = some (15, 61) := (by decide +kernel : rt_ft 411 221 = some (15, 61))
theorem wf_411_237 : rx_ft (rt_P sc fm) 411 237 = some (15, 66) := (by decide +kernel : rt_ft 411 237 = some (15, 66))
theorem wf_411_409 : rx_ft (rt_P sc fm) 411 409 = some (15, 13) := (by decide +kernel : rt_ft 411 409 = some (15, 13))
theorem wi_411_0 : ri (rt_P sc fm) 411 0 (.aload_n 0) (1) := ri_of (by decide +kernel) rfl
theorem wi_411_1 : ri (rt_P sc fm) 411 1 (.getfield 409) (4) := ri_of (by decide +kernel) rfl
theorem wi_411_102 : ri (rt_P sc fm) 411 102 (.iload_n 3) (103) := ri_of (by decide +kernel) rfl
theorem wi_411_103 : ri (rt_P sc fm) 411 103 (.iconst 4) (104) := ri_of (by decide +kernel) rfl
theorem wi_411_104 : ri (rt_P sc fm) 411 104 (.imul) (105) := ri_of (by decide +kernel) rfl
theorem wi_411_105 : ri (rt_P sc fm) 411 105 (.laload) (106) := ri_of (by decide +kernel) rfl
theorem wi_411_106 : ri (rt_P sc fm) 411 106 (.invokevirtual 513) (109) := ri_of (by decide +kernel) rfl
theorem wi_411_109 : ri (rt_P sc fm) 411 109 (.iastore) (110) := ri_of (by decide +kernel) rfl
theorem wi_411_110 : ri (rt_P sc fm) 411 110 (.iinc 2 1) (113) := ri_of (by decide +kernel) rfl
theorem wi_411_113 : ri (rt_P sc fm) 411 113 (.goto (-70)) (116) := ri_of (by decide +kernel) rfl
theorem wi_411_116 : ri (rt_P sc fm) 411 116 (.return_) (117) := ri_of (by decide +kernel) rfl
theorem wi_411_12 : ri (rt_P sc fm) 411 12 (.bipush 16) (14) := ri_of (by decide +kernel) rfl
theorem wi_411_14 : ri (rt_P sc fm) 411 14 (.iconst 0) (15) := ri_of (by decide +kernel) rfl
theorem wi_411_15 : ri (rt_P sc fm) 411 15 (.iconst 0) (16) := ri_of (by decide +kernel) rfl
theorem wi_411_16 : ri (rt_P sc fm) 411 16 (.invokevirtual 581) (19) := ri_of (by decide +kernel) rfl
theorem wi_411_19 : ri (rt_P sc fm) 411 19 (.aload_n 0) (20) := ri_of (by decide +kernel) rfl
theorem wi_411_20 : ri (rt_P sc fm) 411 20 (.getfield 409) (23) := ri_of (by decide +kernel) rfl
theorem wi_411_23 : ri (rt_P sc fm) 411 23 (.ifCond .eq 4) (26) := ri_of (by decide +kernel) rfl
theorem wi_411_26 : ri (rt_P sc fm) 411 26 (.return_) (27) := ri_of (by decide +kernel) rfl
theorem wi_411_27 : ri (rt_P sc fm) 411 27 (.aload_n 0) (28) := ri_of (by decide +kernel) rfl
theorem wi_411_28 : ri (rt_P sc fm) 411 28 (.getfield 209) (31) := ri_of (by decide +kernel) rfl
theorem wi_411_31 : ri (rt_P sc fm) 411 31 (.iload_n 1) (32) := ri_of (by decide +kernel) rfl
theorem wi_411_32 : ri (rt_P sc fm) 411 32 (.aload_n 0) (33) := ri_of (by decide +kernel) rfl
theorem wi_411_33 : ri (rt_P sc fm) 411 33 (.getfield 218) (36) := ri_of (by decide +kernel) rfl
theorem wi_411_36 : ri (rt_P sc fm) 411 36 (.sipush 1218) (39) := ri_of (by decide +kernel) rfl
theorem wi_411_39 : ri (rt_P sc fm) 411 39 (.iaload) (40) := ri_of (by decide +kernel) rfl
theorem wi_411_4 : ri (rt_P sc fm) 411 4 (.ifCond .eq 4) (7) := ri_of (by decide +kernel) rfl
theorem wi_411_40 : ri (rt_P sc fm) 411 40 (.iastore) (41) := ri_of (by decide +kernel) rfl
theorem wi_411_41 : ri (rt_P sc fm) 411 41 (.iconst 0) (42) := ri_of (by decide +kernel) rfl
theorem wi_411_42 : ri (rt_P sc fm) 411 42 (.istore_n 2) (43) := ri_of (by decide +kernel) rfl
theorem wi_411_43 : ri (rt_P sc fm) 411 43 (.iload_n 2) (44) := ri_of (by decide +kernel) rfl
theorem wi_411_44 : ri (rt_P sc fm) 411 44 (.aload_n 0) (45) := ri_of (by decide +kernel) rfl
theorem wi_411_45 : ri (rt_P sc fm) 411 45 (.getfield 209) (48) := ri_of (by decide +kernel) rfl
theorem wi_411_48 : ri (rt_P sc fm) 411 48 (.iload_n 1) (49) := ri_of (by decide +kernel) rfl
theorem wi_411_49 : ri (rt_P sc fm) 411 49 (.iaload) (50) := ri_of (by decide +kernel) rfl
theorem wi_411_50 : ri (rt_P sc fm) 411 50 (.if_icmp .ge 66) (53) := ri_of (by decide +kernel) rfl
theorem wi_411_53 : ri (rt_P sc fm) 411 53 (.aload_n 0) (54) := ri_of (by decide +kernel) rfl
theorem wi_411_54 : ri (rt_P sc fm) 411 54 (.sipush 1218) (57) := ri_of (by decide +kernel) rfl
theorem wi_411_57 : ri (rt_P sc fm) 411 57 (.iload_n 2) (58) := ri_of (by decide +kernel) rfl
theorem wi_411_58 : ri (rt_P sc fm) 411 58 (.invokevirtual 543) (61) := ri_of (by decide +kernel) rfl
theorem wi_411_61 : ri (rt_P sc fm) 411 61 (.istore_n 3) (62) := ri_of (by decide +kernel) rfl
theorem wi_411_62 : ri (rt_P sc fm) 411 62 (.aload_n 0) (63) := ri_of (by decide +kernel) rfl
theorem wi_411_63 : ri (rt_P sc fm) 411 63 (.aload_n 0) (64) := ri_of (by decide +kernel) rfl
theorem wi_411_64 : ri (rt_P sc fm) 411 64 (.getfield 221) (67) := ri_of (by decide +kernel) rfl
theorem wi_411_67 : ri (rt_P sc fm) 411 67 (.iload_n 3) (68) := ri_of (by decide +kernel) rfl
theorem wi_411_68 : ri (rt_P sc fm) 411 68 (.laload) (69) := ri_of (by decide +kernel) rfl
theorem wi_411_69 : ri (rt_P sc fm) 411 69 (.invokevirtual 459) (72) := ri_of (by decide +kernel) rfl
theorem wi_411_7 : ri (rt_P sc fm) 411 7 (.return_) (8) := ri_of (by decide +kernel) rfl
theorem wi_411_72 : ri (rt_P sc fm) 411 72 (.istore 4) (74) := ri_of (by decide +kernel) rfl
theorem wi_411_74 : ri (rt_P sc fm) 411 74 (.aload_n 0) (75) := ri_of (by decide +kernel) rfl
theorem wi_411_75 : ri (rt_P sc fm) 411 75 (.getfield 212) (78) := ri_of (by decide +kernel) rfl
theorem wi_411_78 : ri (rt_P sc fm) 411 78 (.iconst 4) (79) := ri_of (by decide +kernel) rfl
theorem wi_411_79 : ri (rt_P sc fm) 411 79 (.iload_n 1) (80) := ri_of (by decide +kernel) rfl
theorem wi_411_8 : ri (rt_P sc fm) 411 8 (.aload_n 0) (9) := ri_of (by decide +kernel) rfl
theorem wi_411_80 : ri (rt_P sc fm) 411 80 (.imul) (81) := ri_of (by decide +kernel) rfl
theorem wi_411_81 : ri (rt_P sc fm) 411 81 (.iload_n 2) (82) := ri_of (by decide +kernel) rfl
theorem wi_411_82 : ri (rt_P sc fm) 411 82 (.iadd) (83) := ri_of (by decide +kernel) rfl
theorem wi_411_83 : ri (rt_P sc fm) 411 83 (.iload 4) (85) := ri_of (by decide +kernel) rfl
theorem wi_411_85 : ri (rt_P sc fm) 411 85 (.iastore) (86) := ri_of (by decide +kernel) rfl
theorem wi_411_86 : ri (rt_P sc fm) 411 86 (.aload_n 0) (87) := ri_of (by decide +kernel) rfl
theorem wi_411_87 : ri (rt_P sc fm) 411 87 (.getfield 215) (90) := ri_of (by decide +kernel) rfl
theorem wi_411_9 : ri (rt_P sc fm) 411 9 (.sipush 1218) (12) := ri_of (by decide +kernel) rfl
theorem wi_411_90 : ri (rt_P sc fm) 411 90 (.iconst 4) (91) := ri_of (by decide +kernel) rfl
theorem wi_411_91 : ri (rt_P sc fm) 411 91 (.iload_n 1) (92) := ri_of (by decide +kernel) rfl
theorem wi_411_92 : ri (rt_P sc fm) 411 92 (.imul) (93) := ri_of (by decide +kernel) rfl
theorem wi_411_93 : ri (rt_P sc fm) 411 93 (.iload_n 2) (94) := ri_of (by decide +kernel) rfl
theorem wi_411_94 : ri (rt_P sc fm) 411 94 (.iadd) (95) := ri_of (by decide +kernel) rfl
theorem wi_411_95 : ri (rt_P sc fm) 411 95 (.aload_n 0) (96) := ri_of (by decide +kernel) rfl
theorem wi_411_96 : ri (rt_P sc fm) 411 96 (.iload 4) (98) := ri_of (by decide +kernel) rfl
theorem wi_411_98 : ri (rt_P sc fm) 411 98 (.aload_n 0) (99) := ri_of (by decide +kernel) rfl
theorem wi_411_99 : ri (rt_P sc fm) 411 99 (.getfield 237) (102) := ri_of (by decide +kernel) rfl
theorem wr_411 : rx_rt (rt_P sc fm) 411 = none := (by decide +kernel : rt_rt 411 = none)
/-- MarkHouseModel.toldMarks(I)V -/
def d_411 (n : Nat) (a1 : Int32) (c : cS) : Option (cS) :=
  if (c.1 174 13) = 0 then
    Option.bind (d_396 n 1218 16 0 0 c) (fun r1 =>
    if (r1.1 174 13) = 0 then
      if ib 1218 1219 then
      if ib a1 3840 then
      lt (pI r1 219 (ix a1) (r1.1 222 (ix 1218))) (fun c4 =>
      Option.bind (whl (R := (cS)) (fun s7 : Int32 × cS =>
        if ib a1 3840 then
        if (s7.2.1 219 (ix a1)) ≤ s7.1 then
          some (.inr s7.2)
        else
          Option.bind (d_392 n 1218 s7.1) (fun v9 =>
          if ib v9 24380 then
          Option.bind (d_372 n (s7.2.2 223 (ix v9)) s7.2) (fun v12 =>
          if ib ((4 * a1) + s7.1) 15360 then
          lt (pI s7.2 220 (ix ((4 * a1) + s7.1)) v12) (fun c15 =>
          if ib (v9 * 4) 97520 then
          Option.bind (d_377 n v12 (c15.2 228 (ix (v9 * 4))) c15) (fun v18 =>
          if ib ((4 * a1) + s7.1) 15360 then
          lt (pI c15 221 (ix ((4 * a1) + s7.1)) v18) (fun c20 =>
          lt (s7.1 + 1 : Int32) (fun v23 =>
          some (.inl (v23, c20))))
          else none)
          else none)
          else none)
          else none)
        else none) n (0, c4))
      (fun x25 : cS =>
        some x25))
      else none
      else none
    else
      some r1)
  else
    some c
set_option maxRecDepth 100000 in
set_option maxHeartbeats 4000000 in
theorem sp_411 {F Lo n : Nat} {a1 : Int32} {c y : cS} {w : cW} {K : cS → Prop} {Q : ((Option Value) ⊕ String) → List va_E → Prop} (hw : rOK fm w) (hF : 6 ≤ F) (hLo : 154 ≤ Lo)  (h : wp (d_411 n a1 c) K) (hQ : ∀ r, K r → Q (.inl none) (hq false r y w)) : rs (rt_P sc fm) 411 F Lo 0 [(0, .ref 174), (1, .int a1)] [] (hq false c y w) Q := by
  unfold d_411 at h
  obtain ⟨lv, elv⟩ : ∃ lv : rx_L, lv = [(0, .ref 174), (1, .int a1)] := ⟨_, rfl⟩
  rw [← elv]
  have l0 : rx_ld lv 0 = some (.ref 174) := by rw [elv]; rfl
  have l1 : rx_ld lv 1 = some (.int a1) := by rw [elv]; rfl
  refine rs_aldn wi_411_0 l0 ?_
  refine dq_gi wi_411_1 wf_411_409 tf_174_13 ?_
  refine rs_ifeq (tg := 8) wi_411_4 ⟨by decide, by decide⟩ (fun q => ?_) (fun q => ?_)
  ·
    have h := wp_pos h q
    refine rs_aldn wi_411_8 l0 ?_
    refine rs_pure wi_411_9 rfl ?_
    refine rs_topi (v := 1218) (by decide) ?_
    refine rs_pure wi_411_12 rfl ?_
    refine rs_topi (v := 16) (by decide) ?_
    refine rs_pure wi_411_14 rfl ?_
    refine rs_topi (v := 0) (by decide) ?_
    refine rs_pure wi_411_15 rfl ?_
    refine rs_topi (v := 0) (by decide) ?_
    refine rs_V wi_411_16 wc_411_581 rfl (dq_isa tf_174_0 wa_15_396) (Nat.le_trans (by decide) hF) (ml_le wm_396 (Nat.le_trans (by decide) hLo)) rfl (sp_396 hw (Nat.le_trans (by decide : 5 ≤ 6 - 1) (Nat.sub_le_sub_right hF 1)) (ml_sub wm_396 (Nat.le_trans (by decide : 130 ≤ 154 - 24) (Nat.sub_le_sub_right hLo 24))) (wp_bind h) (fun r1 h => rs_back0 ?_))
    refine rs_aldn wi_411_19 l0 ?_
    refine dq_gi wi_411_20 wf_411_409 tf_174_13 ?_
    refine rs_ifeq (tg := 27) wi_411_23 ⟨by decide, by decide⟩ (fun q => ?_) (fun q => ?_)
    ·
      have h := wp_pos h q
      refine rs_aldn wi_411_27 l0 ?_
      refine dq_gr wi_411_28 wf_411_209 tf_174_57 ?_
      refine rs_ildn wi_411_31 l1 ?_
      refine rs_aldn wi_411_32 l0 ?_
      refine dq_gr wi_411_33 wf_411_218 tf_174_60 ?_
      refine rs_pure wi_411_36 rfl ?_
      refine rs_topi (v := 1218) (by decide) ?_
      obtain ⟨g2, h⟩ := wp_gd h
      refine dq_iald wi_411_39 t_222 g2 ?_
      obtain ⟨g3, h⟩ := wp_gd h
      obtain ⟨c4, e5, h⟩ := wp_lt h
      refine dq_iast wi_411_40 t_219 g3 e5 ?_
      refine rs_pure wi_411_41 rfl ?_
      refine rs_topi (v := 0) (by decide) ?_
      refine dl_istn wi_411_42 rfl (fun lv l2 t6 => ?_)
      have l0 := t6 _ _ (by decide) (Or.inl rfl) l0
      have l1 := t6 _ _ (by decide) (Or.inl rfl) l1
      refine whl_ex (A := fun s7 : Int32 × cS => ∀ lv, rx_ld lv 0 = some (.ref 174) → rx_ld lv 1 = some (.int a1) → rx_ld lv 2 = some (.int s7.1) → rs (rt_P sc fm) 411 F Lo 43 lv [] (hq false s7.2 y w) Q) (B := (fun x25 : cS => ∀ lv, rs (rt_P sc fm) 411 F Lo 116 lv [] (hq false x25 y w) Q)) ?_ ?_ _ _ (wp_bind h) _ l0 l1 l2
      · intro s7 h lv l0 l1 l2
        refine rs_ildn wi_411_43 l2 ?_
        refine rs_aldn wi_411_44 l0 ?_
        refine dq_gr wi_411_45 wf_411_209 tf_174_57 ?_
        refine rs_ildn wi_411_48 l1 ?_
        obtain ⟨g8, h⟩ := wp_gd h
        refine dq_iald wi_411_49 t_219 g8 ?_
        refine rs_icge (tg := 116) wi_411_50 ⟨by decide, by decide⟩ (fun q => ?_) (fun q => ?_)
        ·
          have h := wp_pos h q
          exact h _
        ·
          have h := wp_neg h q
          refine rs_aldn wi_411_53 l0 ?_
          refine rs_pure wi_411_54 rfl ?_
          refine rs_topi (v := 1218) (by decide) ?_
          refine rs_ildn wi_411_57 l2 ?_
          refine rs_V wi_411_58 wc_411_543 rfl (dq_isa tf_174_0 wa_15_392) (Nat.le_trans (by decide) hF) (ml_le wm_392 (Nat.le_trans (by decide) hLo)) rfl (sp_392 (Nat.le_trans (by decide : 0 ≤ 6 - 1) (Nat.sub_le_sub_right hF 1)) (ml_sub wm_392 (Nat.le_trans (by decide : 0 ≤ 154 - 22) (Nat.sub_le_sub_right hLo 22))) (wp_bind h) (fun v9 h => rs_back1 ?_))
          refine dl_istn wi_411_61 rfl (fun lv l3 t10 => ?_)
          have l0 := t10 _ _ (by decide) (Or.inl rfl) l0
          have l1 := t10 _ _ (by decide) (Or.inl rfl) l1
          have l2 := t10 _ _ (by decide) (Or.inl rfl) l2
          refine rs_aldn wi_411_62 l0 ?_
          refine rs_aldn wi_411_63 l0 ?_
          refine dq_gr wi_411_64 wf_411_221 tf_174_61 ?_
          refine rs_ildn wi_411_67 l3 ?_
          obtain ⟨g11, h⟩ := wp_gd h
          refine dq_lald wi_411_68 t_223 g11 ?_
          refine rs_V wi_411_69 wc_411_459 rfl (dq_isa tf_174_0 wa_15_372) (Nat.le_trans (by decide) hF) (ml_le wm_372 (Nat.le_trans (by decide) hLo)) rfl (sp_372 hw (Nat.le_trans (by decide : 0 ≤ 6 - 1) (Nat.sub_le_sub_right hF 1)) (ml_sub wm_372 (Nat.le_trans (by decide : 0 ≤ 154 - 23) (Nat.sub_le_sub_right hLo 23))) (wp_bind h) (fun v12 h => rs_back1 ?_))
          refine dl_ist wi_411_72 rfl (fun lv l4 t13 => ?_)
          have l0 := t13 _ _ (by decide) (Or.inl rfl) l0
          have l1 := t13 _ _ (by decide) (Or.inl rfl) l1
          have l2 := t13 _ _ (by decide) (Or.inl rfl) l2
          have l3 := t13 _ _ (by decide) (Or.inl rfl) l3
          refine rs_aldn wi_411_74 l0 ?_
          refine dq_gr wi_411_75 wf_411_212 tf_174_58 ?_
          refine rs_pure wi_411_78 rfl ?_
          refine rs_topi (v := 4) (by decide) ?_
          refine rs_ildn wi_411_79 l1 ?_
          refine rs_pure wi_411_80 rfl ?_
          refine rs_ildn wi_411_81 l2 ?_
          refine rs_pure wi_411_82 rfl ?_
          refine rs_ild wi_411_83 l4 ?_
          obtain ⟨g14, h⟩ := wp_gd h
          obtain ⟨c15, e16, h⟩ := wp_lt h
          refine dq_iast wi_411_85 t_220 g14 e16 ?_
          refine rs_aldn wi_411_86 l0 ?_
          refine dq_gr wi_411_87 wf_411_215 tf_174_59 ?_
          refine rs_pure wi_411_90 rfl ?_
          refine rs_topi (v := 4) (by decide) ?_
          refine rs_ildn wi_411_91 l1 ?_
          refine rs_pure wi_411_92 rfl ?_
          refine rs_ildn wi_411_93 l2 ?_
          refine rs_pure wi_411_94 rfl ?_
          refine rs_aldn wi_411_95 l0 ?_
          refine rs_ild wi_411_96 l4 ?_
          refine rs_aldn wi_411_98 l0 ?_
          refine dq_gr wi_411_99 wf_411_237 tf_174_66 ?_
          refine rs_ildn wi_411_102 l3 ?_
          refine rs_pure wi_411_103 rfl ?_
          refine rs_topi (v := 4) (by decide) ?_
          refine rs_pure wi_411_104 rfl ?_
          obtain ⟨g17, h⟩ := wp_gd h
          refine dq_lald wi_411_105 t_228 g17 ?_
          refine rs_V wi_411_106 wc_411_513 rfl (dq_isa tf_174_0 wa_15_377) (Nat.le_trans (by decide) hF) (ml_le wm_377 (Nat.le_trans (by decide) hLo)) rfl (sp_377 hw (Nat.le_trans (by decide : 0 ≤ 6 - 1) (Nat.sub_le_sub_right hF 1)) (ml_sub wm_377 (Nat.le_trans (by decide : 0 ≤ 154 - 24) (Nat.sub_le_sub_right hLo 24))) (wp_bind h) (fun v18 h => rs_back1 ?_))
          obtain ⟨g19, h⟩ := wp_gd h
          obtain ⟨c20, e21, h⟩ := wp_lt h
          refine dq_iast wi_411_109 t_221 g19 e21 ?_
          obtain ⟨v23, e24, h⟩ := wp_lt h
          refine dl_inc wi_411_110 l2 rfl e24 (fun lv l2 t22 => ?_)
          have l0 := t22 _ _ (by decide) (Or.inl rfl) l0
          have l1 := t22 _ _ (by decide) (Or.inl rfl) l1
          refine rs_goto (tg := 43) wi_411_113 ⟨by decide, by decide⟩ ?_
          exact h _ l0 l1 l2
      ·
        intro x25 h lv
        exact rs_vret wi_411_116 wr_411 (hQ x25 h)
    ·
      have h := wp_neg h q
      exact rs_vret wi_411_26 wr_411 (hQ r1 h)
  ·
    have h := wp_neg h q
    exact rs_vret wi_411_7 wr_411 (hQ c h)
theorem t_217 : ta false 217 0 3840 := ⟨rfl, by decide, by decide⟩
theorem t_218 : ta false 218 0 3840 := ⟨rfl, by decide, by decide⟩
theorem tf_174_55 : fo false 174 15 55 (.ref 217) := ⟨_, rfl, rfl, by decide, by decide⟩
theorem tf_174_56 : fo false 174 15 56 (.ref 218) := ⟨_, rfl, rfl, by decide, by decide⟩
theorem wa_15_410 : rz_cn 15 (rx_yn (rt_P sc fm) 410).cls = true := (by decide +kernel : rz_cn 15 (rt_yn 410).cls = true)
theorem wa_15_411 : rz_cn 15 (rx_yn (rt_P sc fm) 411).cls = true := (by decide +kernel : rz_cn 15 (rt_yn 411).cls = true)
theorem wa_15_412 : rz_cn 15 (rx_yn (rt_P sc fm) 412).cls = true := (by decide +kernel : rz_cn 15 (rt_yn 412).cls = true)
theorem wc_409_505 : rx_ct (rt_P sc fm) 409 505 = some (0, 381, 0) := (by decide +kernel : rt_ct 409 505 = some (0, 381, 0))
theorem wc_409_521 : rx_ct (rt_P sc fm) 409 521 = some (0, 380, 1) := (by decide +kernel : rt_ct 409 521 = some (0, 380, 1))
theorem wc_409_571 : rx_ct (rt_P sc fm) 409 571 = some (0, 382, 2) := (by decide +kernel : rt_ct 409 571 = some (0, 382, 2))
theorem wc_409_602 : rx_ct (rt_P sc fm) 409 602 = some (0, 411, 1) := (by decide +kernel : rt_ct 409 602 = some (0, 411, 1))
theorem wc_409_605 : rx_ct (rt_P sc fm) 409 605 = some (0, 412, 2) := (by decide +kernel : rt_ct 409 605 = some (0, 412, 2))
theorem wc_409_608 : rx_ct (rt_P sc fm) 409 608 = some (0, 410, 1) := (by decide +kernel : rt_ct 409 608 = some (0, 410, 1))
theorem wf_409_185 : rx_ft (rt_P sc fm) 409 185 = some (15, 49) := (by decide +kernel : rt_ft 409 185 = some (15, 49))
theorem wf_409_194 : rx_ft (rt_P sc fm) 409 194 = some (15, 52) := (by decide +kernel : rt_ft 409 194 = some (15, 52))
theorem wf_409_203 : rx_ft (rt_P sc fm) 409 203 = some (15, 55) := (by decide +kernel : rt_ft 409 203 = some (15, 55))
theorem wf_409_206 : rx_ft (rt_P sc fm) 409 206 = some (15, 56) := (by decide +kernel : rt_ft 409 206 = some (15, 56))
theorem wf_409_471 : rx_ft (rt_P sc fm) 409 471 = some (15, 67) := (by decide +kernel : rt_ft 409 471 = some (15, 67))
theorem wf_409_486 : rx_ft (rt_P sc fm) 409 486 = some (15, 68) := (by decide +kernel : rt_ft 409 486 = some (15, 68))
theorem wi_409_0 : ri (rt_P sc fm) 409 0 (.aload_n 0) (1) := ri_of (by decide +kernel) rfl
theorem wi_409_1 : ri (rt_P sc fm) 409 1 (.getfield 185) (4) := ri_of (by decide +kernel) rfl
theorem wi_409_100 : ri (rt_P sc fm) 409 100 (.getfield 486) (103) := ri_of (by decide +kernel) rfl
theorem wi_409_103 : ri (rt_P sc fm) 409 103 (.l2i) (104) := ri_of (by decide +kernel) rfl
theorem wi_409_104 : ri (rt_P sc fm) 409 104 (.iastore) (105) := ri_of (by decide +kernel) rfl
theorem wi_409_105 : ri (rt_P sc fm) 409 105 (.aload_n 0) (106) := ri_of (by decide +kernel) rfl
theorem wi_409_106 : ri (rt_P sc fm) 409 106 (.iload_n 2) (107) := ri_of (by decide +kernel) rfl
theorem wi_409_107 : ri (rt_P sc fm) 409 107 (.invokevirtual 602) (110) := ri_of (by decide +kernel) rfl
theorem wi_409_110 : ri (rt_P sc fm) 409 110 (.return_) (111) := ri_of (by decide +kernel) rfl
theorem wi_409_111 : ri (rt_P sc fm) 409 111 (.aload_n 0) (112) := ri_of (by decide +kernel) rfl
theorem wi_409_112 : ri (rt_P sc fm) 409 112 (.iload_n 2) (113) := ri_of (by decide +kernel) rfl
theorem wi_409_113 : ri (rt_P sc fm) 409 113 (.invokevirtual 602) (116) := ri_of (by decide +kernel) rfl
theorem wi_409_116 : ri (rt_P sc fm) 409 116 (.return_) (117) := ri_of (by decide +kernel) rfl
theorem wi_409_117 : ri (rt_P sc fm) 409 117 (.aload_n 0) (118) := ri_of (by decide +kernel) rfl
theorem wi_409_118 : ri (rt_P sc fm) 409 118 (.iload_n 1) (119) := ri_of (by decide +kernel) rfl
theorem wi_409_119 : ri (rt_P sc fm) 409 119 (.iload_n 2) (120) := ri_of (by decide +kernel) rfl
theorem wi_409_120 : ri (rt_P sc fm) 409 120 (.invokevirtual 605) (123) := ri_of (by decide +kernel) rfl
theorem wi_409_123 : ri (rt_P sc fm) 409 123 (.return_) (124) := ri_of (by decide +kernel) rfl
theorem wi_409_124 : ri (rt_P sc fm) 409 124 (.aload_n 0) (125) := ri_of (by decide +kernel) rfl
theorem wi_409_125 : ri (rt_P sc fm) 409 125 (.getfield 203) (128) := ri_of (by decide +kernel) rfl
theorem wi_409_128 : ri (rt_P sc fm) 409 128 (.iload_n 2) (129) := ri_of (by decide +kernel) rfl
theorem wi_409_129 : ri (rt_P sc fm) 409 129 (.aload_n 0) (130) := ri_of (by decide +kernel) rfl
theorem wi_409_130 : ri (rt_P sc fm) 409 130 (.getfield 471) (133) := ri_of (by decide +kernel) rfl
theorem wi_409_133 : ri (rt_P sc fm) 409 133 (.iastore) (134) := ri_of (by decide +kernel) rfl
theorem wi_409_134 : ri (rt_P sc fm) 409 134 (.aload_n 0) (135) := ri_of (by decide +kernel) rfl
theorem wi_409_135 : ri (rt_P sc fm) 409 135 (.invokevirtual 505) (138) := ri_of (by decide +kernel) rfl
theorem wi_409_138 : ri (rt_P sc fm) 409 138 (.lstore_n 3) (139) := ri_of (by decide +kernel) rfl
theorem wi_409_139 : ri (rt_P sc fm) 409 139 (.aload_n 0) (140) := ri_of (by decide +kernel) rfl
theorem wi_409_140 : ri (rt_P sc fm) 409 140 (.bipush 46) (142) := ri_of (by decide +kernel) rfl
theorem wi_409_142 : ri (rt_P sc fm) 409 142 (.invokevirtual 521) (145) := ri_of (by decide +kernel) rfl
theorem wi_409_145 : ri (rt_P sc fm) 409 145 (.aload_n 0) (146) := ri_of (by decide +kernel) rfl
theorem wi_409_146 : ri (rt_P sc fm) 409 146 (.invokevirtual 505) (149) := ri_of (by decide +kernel) rfl
theorem wi_409_149 : ri (rt_P sc fm) 409 149 (.lstore_n 3) (150) := ri_of (by decide +kernel) rfl
theorem wi_409_150 : ri (rt_P sc fm) 409 150 (.return_) (151) := ri_of (by decide +kernel) rfl
theorem wi_409_151 : ri (rt_P sc fm) 409 151 (.aload_n 0) (152) := ri_of (by decide +kernel) rfl
theorem wi_409_152 : ri (rt_P sc fm) 409 152 (.getfield 206) (155) := ri_of (by decide +kernel) rfl
theorem wi_409_155 : ri (rt_P sc fm) 409 155 (.iload_n 2) (156) := ri_of (by decide +kernel) rfl
theorem wi_409_156 : ri (rt_P sc fm) 409 156 (.aload_n 0) (157) := ri_of (by decide +kernel) rfl
theorem wi_409_157 : ri (rt_P sc fm) 409 157 (.getfield 471) (160) := ri_of (by decide +kernel) rfl
theorem wi_409_160 : ri (rt_P sc fm) 409 160 (.iastore) (161) := ri_of (by decide +kernel) rfl
theorem wi_409_161 : ri (rt_P sc fm) 409 161 (.aload_n 0) (162) := ri_of (by decide +kernel) rfl
theorem wi_409_162 : ri (rt_P sc fm) 409 162 (.invokevirtual 505) (165) := ri_of (by decide +kernel) rfl
theorem wi_409_165 : ri (rt_P sc fm) 409 165 (.lstore_n 3) (166) := ri_of (by decide +kernel) rfl
theorem wi_409_166 : ri (rt_P sc fm) 409 166 (.return_) (167) := ri_of (by decide +kernel) rfl
theorem wi_409_167 : ri (rt_P sc fm) 409 167 (.aload_n 0) (168) := ri_of (by decide +kernel) rfl
theorem wi_409_168 : ri (rt_P sc fm) 409 168 (.iload_n 2) (169) := ri_of (by decide +kernel) rfl
theorem wi_409_169 : ri (rt_P sc fm) 409 169 (.invokevirtual 608) (172) := ri_of (by decide +kernel) rfl
theorem wi_409_172 : ri (rt_P sc fm) 409 172 (.aload_n 0) (173) := ri_of (by decide +kernel) rfl
theorem wi_409_173 : ri (rt_P sc fm) 409 173 (.getfield 206) (176) := ri_of (by decide +kernel) rfl
theorem wi_409_176 : ri (rt_P sc fm) 409 176 (.iload_n 2) (177) := ri_of (by decide +kernel) rfl
theorem wi_409_177 : ri (rt_P sc fm) 409 177 (.aload_n 0) (178) := ri_of (by decide +kernel) rfl
theorem wi_409_178 : ri (rt_P sc fm) 409 178 (.getfield 471) (181) := ri_of (by decide +kernel) rfl
theorem wi_409_181 : ri (rt_P sc fm) 409 181 (.iastore) (182) := ri_of (by decide +kernel) rfl
theorem wi_409_182 : ri (rt_P sc fm) 409 182 (.aload_n 0) (183) := ri_of (by decide +kernel) rfl
theorem wi_409_183 : ri (rt_P sc fm) 409 183 (.invokevirtual 505) (186) := ri_of (by decide +kernel) rfl
theorem wi_409_186 : ri (rt_P sc fm) 409 186 (.lstore_n 3) (187) := ri_of (by decide +kernel) rfl
theorem wi_409_187 : ri (rt_P sc fm) 409 187 (.return_) (188) := ri_of (by decide +kernel) rfl
theorem wi_409_188 : ri (rt_P sc fm) 409 188 (.aload_n 0) (189) := ri_of (by decide +kernel) rfl
theorem wi_409_189 : ri (rt_P sc fm) 409 189 (.iload_n 2) (190) := ri_of (by decide +kernel) rfl
theorem wi_409_190 : ri (rt_P sc fm) 409 190 (.invokevirtual 608) (193) := ri_of (by decide +kernel) rfl
theorem wi_409_193 : ri (rt_P sc fm) 409 193 (.return_) (194) := ri_of (by decide +kernel) rfl
theorem wi_409_194 : ri (rt_P sc fm) 409 194 (.return_) (195) := ri_of (by decide +kernel) rfl
theorem wi_409_4 : ri (rt_P sc fm) 409 4 (.iload_n 2) (5) := ri_of (by decide +kernel) rfl
theorem wi_409_5 : ri (rt_P sc fm) 409 5 (.iaload) (6) := ri_of (by decide +kernel) rfl
theorem wi_409_6 : ri (rt_P sc fm) 409 6 (.tableswitch 188 14 30 #[82, 105, 111, 111, 118, 118, 118, 188, 188, 188, 188, 188, 188, 145, 145, 161, 182]) (6 + rx_len (.tableswitch 188 14 30 #[82, 105, 111, 111, 118, 118, 118, 188, 188, 188, 188, 188, 188, 145, 145, 161, 182])) := ri_of (by decide +kernel) rfl
theorem wi_409_88 : ri (rt_P sc fm) 409 88 (.aload_n 0) (89) := ri_of (by decide +kernel) rfl
theorem wi_409_89 : ri (rt_P sc fm) 409 89 (.iconst 0) (90) := ri_of (by decide +kernel) rfl
theorem wi_409_90 : ri (rt_P sc fm) 409 90 (.iconst 1) (91) := ri_of (by decide +kernel) rfl
theorem wi_409_91 : ri (rt_P sc fm) 409 91 (.invokevirtual 571) (94) := ri_of (by decide +kernel) rfl
theorem wi_409_94 : ri (rt_P sc fm) 409 94 (.aload_n 0) (95) := ri_of (by decide +kernel) rfl
theorem wi_409_95 : ri (rt_P sc fm) 409 95 (.getfield 194) (98) := ri_of (by decide +kernel) rfl
theorem wi_409_98 : ri (rt_P sc fm) 409 98 (.iload_n 2) (99) := ri_of (by decide +kernel) rfl
theorem wi_409_99 : ri (rt_P sc fm) 409 99 (.aload_n 0) (100) := ri_of (by decide +kernel) rfl
theorem wm_410 : rx_ml (rt_P sc fm) 410 = 5 := (by decide +kernel : rt_ml 410 = 5)
theorem wm_411 : rx_ml (rt_P sc fm) 411 = 5 := (by decide +kernel : rt_ml 411 = 5)
theorem wm_412 : rx_ml (rt_P sc fm) 412 = 6 := (by decide +kernel : rt_ml 412 = 6)
theorem wr_409 : rx_rt (rt_P sc fm) 409 = none := (by decide +kernel : rt_rt 409 = none)
/-- MarkHouseModel.parts(II)V -/
def d_409 (n : Nat) (a1 : Int32) (a2 : Int32) (c : cS) : Option (cS) :=
  if ib a2 3840 then
  jn (fun p2 : Unit =>
    Option.bind (d_412 n a1 a2 c) (fun r3 =>
    some r3))
  (fun j117 =>
  jn (fun p4 : Unit =>
    if ib a2 3840 then
    lt (pI c 217 (ix a2) (c.1 174 67)) (fun c6 =>
    Option.bind (d_381 n c6) (fun r8 =>
    Option.bind (d_380 n 46 r8.2) (fun r10 =>
    Option.bind (d_381 n r10) (fun r11 =>
    some r11.2))))
    else none)
  (fun j124 =>
  jn (fun p13 : Unit =>
    some c)
  (fun j194 =>
  jn (fun p14 : Unit =>
    if ib a2 3840 then
    lt (pI c 218 (ix a2) (c.1 174 67)) (fun c16 =>
    Option.bind (d_381 n c16) (fun r18 =>
    some r18.2))
    else none)
  (fun j151 =>
  if (c.1 211 (ix a2)) = 14 then
    Option.bind (d_382 n 0 1 c) (fun r21 =>
    if ib a2 3840 then
    lt (pI r21 214 (ix a2) (((r21.2 174 68) : Int64).toInt32)) (fun c23 =>
    Option.bind (d_411 n a2 c23) (fun r25 =>
    some r25))
    else none)
  else
  if (c.1 211 (ix a2)) = 15 then
    Option.bind (d_411 n a2 c) (fun r27 =>
    some r27)
  else
  if (c.1 211 (ix a2)) = 16 then
    j117 ()
  else
  if (c.1 211 (ix a2)) = 17 then
    j117 ()
  else
  if (c.1 211 (ix a2)) = 18 then
    j124 ()
  else
  if (c.1 211 (ix a2)) = 19 then
    j124 ()
  else
  if (c.1 211 (ix a2)) = 20 then
    j124 ()
  else
  if (c.1 211 (ix a2)) = 21 then
    j194 ()
  else
  if (c.1 211 (ix a2)) = 22 then
    j194 ()
  else
  if (c.1 211 (ix a2)) = 23 then
    j194 ()
  else
  if (c.1 211 (ix a2)) = 24 then
    j194 ()
  else
  if (c.1 211 (ix a2)) = 25 then
    j194 ()
  else
  if (c.1 211 (ix a2)) = 26 then
    j194 ()
  else
  if (c.1 211 (ix a2)) = 27 then
    j151 ()
  else
  if (c.1 211 (ix a2)) = 28 then
    j151 ()
  else
  if (c.1 211 (ix a2)) = 29 then
    Option.bind (d_410 n a2 c) (fun r42 =>
    if ib a2 3840 then
    lt (pI r42 218 (ix a2) (r42.1 174 67)) (fun c44 =>
    Option.bind (d_381 n c44) (fun r46 =>
    some r46.2))
    else none)
  else
  if (c.1 211 (ix a2)) = 30 then
    Option.bind (d_410 n a2 c) (fun r49 =>
    some r49)
  else
  j194 ()))))
  else none
set_option maxRecDepth 100000 in
set_option maxHeartbeats 4000000 in
theorem sp_409 {F Lo n : Nat} {a1 : Int32} {a2 : Int32} {c y : cS} {w : cW} {K : cS → Prop} {Q : ((Option Value) ⊕ String) → List va_E → Prop} (hw : rOK fm w) (hF : 7 ≤ F) (hLo : 178 ≤ Lo)  (h : wp (d_409 n a1 a2 c) K) (hQ : ∀ r, K r → Q (.inl none) (hq false r y w)) : rs (rt_P sc fm) 409 F Lo 0 [(0, .ref 174), (1, .int a1), (2, .int a2)] [] (hq false c y w) Q := by
  unfold d_409 at h
  obtain ⟨lv, elv⟩ : ∃ lv : rx_L, lv = [(0, .ref 174), (1, .int a1), (2, .int a2)] := ⟨_, rfl⟩
  rw [← elv]
  have l0 : rx_ld lv 0 = some (.ref 174) := by rw [elv]; rfl
  have l1 : rx_ld lv 1 = some (.int a1) := by rw [elv]; rfl
  have l2 : rx_ld lv 2 = some (.int a2) := by rw [elv]; rfl
  refine rs_aldn wi_409_0 l0 ?_
  refine dq_gr wi_409_1 wf_409_185 tf_174_49 ?_
  refine rs_ildn wi_409_4 l2 ?_
  obtain ⟨g1, h⟩ := wp_gd h
  refine dq_iald wi_409_5 t_211 g1 ?_
  refine wp_jn (B := fun p2 : Unit => ∀ lv, rx_ld lv 0 = some (.ref 174) → rx_ld lv 1 = some (.int a1) → rx_ld lv 2 = some (.int a2) → rs (rt_P sc fm) 409 F Lo 117 lv [] (hq false c y w) Q) h (fun p2 h lv l0 l1 l2 => ?_) (fun j117 hj117 h => ?_)
  ·
    refine rs_aldn wi_409_117 l0 ?_
    refine rs_ildn wi_409_118 l1 ?_
    refine rs_ildn wi_409_119 l2 ?_
    refine rs_V wi_409_120 wc_409_605 rfl (dq_isa tf_174_0 wa_15_412) (Nat.le_trans (by decide) hF) (ml_le wm_412 (Nat.le_trans (by decide) hLo)) rfl (sp_412 hw (Nat.le_trans (by decide : 3 ≤ 7 - 1) (Nat.sub_le_sub_right hF 1)) (ml_sub wm_412 (Nat.le_trans (by decide : 62 ≤ 178 - 25) (Nat.sub_le_sub_right hLo 25))) (wp_bind h) (fun r3 h => rs_back0 ?_))
    exact rs_vret wi_409_123 wr_409 (hQ r3 h)
  refine wp_jn (B := fun p4 : Unit => ∀ lv, rx_ld lv 0 = some (.ref 174) → rx_ld lv 2 = some (.int a2) → rs (rt_P sc fm) 409 F Lo 124 lv [] (hq false c y w) Q) h (fun p4 h lv l0 l2 => ?_) (fun j124 hj124 h => ?_)
  ·
    refine rs_aldn wi_409_124 l0 ?_
    refine dq_gr wi_409_125 wf_409_203 tf_174_55 ?_
    refine rs_ildn wi_409_128 l2 ?_
    refine rs_aldn wi_409_129 l0 ?_
    refine dq_gi wi_409_130 wf_409_471 tf_174_67 ?_
    obtain ⟨g5, h⟩ := wp_gd h
    obtain ⟨c6, e7, h⟩ := wp_lt h
    refine dq_iast wi_409_133 t_217 g5 e7 ?_
    refine rs_aldn wi_409_134 l0 ?_
    refine rs_V wi_409_135 wc_409_505 rfl (dq_isa tf_174_0 wa_15_381) (Nat.le_trans (by decide) hF) (ml_le wm_381 (Nat.le_trans (by decide) hLo)) rfl (sp_381 hw (Nat.le_trans (by decide : 2 ≤ 7 - 1) (Nat.sub_le_sub_right hF 1)) (ml_sub wm_381 (Nat.le_trans (by decide : 42 ≤ 178 - 20) (Nat.sub_le_sub_right hLo 20))) (wp_bind h) (fun r8 h => rs_back1 ?_))
    refine dl_lstn wi_409_138 rfl (fun lv l3 t9 => ?_)
    have l0 := t9 _ _ (by decide) (by decide) (Or.inl rfl) l0
    refine rs_aldn wi_409_139 l0 ?_
    refine rs_pure wi_409_140 rfl ?_
    refine rs_topi (v := 46) (by decide) ?_
    refine rs_V wi_409_142 wc_409_521 rfl (dq_isa tf_174_0 wa_15_380) (Nat.le_trans (by decide) hF) (ml_le wm_380 (Nat.le_trans (by decide) hLo)) rfl (sp_380 hw (Nat.le_trans (by decide : 2 ≤ 7 - 1) (Nat.sub_le_sub_right hF 1)) (ml_sub wm_380 (Nat.le_trans (by decide : 42 ≤ 178 - 21) (Nat.sub_le_sub_right hLo 21))) (wp_bind h) (fun r10 h => rs_back0 ?_))
    refine rs_aldn wi_409_145 l0 ?_
    refine rs_V wi_409_146 wc_409_505 rfl (dq_isa tf_174_0 wa_15_381) (Nat.le_trans (by decide) hF) (ml_le wm_381 (Nat.le_trans (by decide) hLo)) rfl (sp_381 hw (Nat.le_trans (by decide : 2 ≤ 7 - 1) (Nat.sub_le_sub_right hF 1)) (ml_sub wm_381 (Nat.le_trans (by decide : 42 ≤ 178 - 20) (Nat.sub_le_sub_right hLo 20))) (wp_bind h) (fun r11 h => rs_back1 ?_))
    refine dl_lstn wi_409_149 rfl (fun lv l3 t12 => ?_)
    exact rs_vret wi_409_150 wr_409 (hQ r11.2 h)
  refine wp_jn (B := fun p13 : Unit => ∀ lv, rs (rt_P sc fm) 409 F Lo 194 lv [] (hq false c y w) Q) h (fun p13 h lv => ?_) (fun j194 hj194 h => ?_)
  ·
    exact rs_vret wi_409_194 wr_409 (hQ c h)
  refine wp_jn (B := fun p14 : Unit => ∀ lv, rx_ld lv 0 = some (.ref 174) → rx_ld lv 2 = some (.int a2) → rs (rt_P sc fm) 409 F Lo 151 lv [] (hq false c y w) Q) h (fun p14 h lv l0 l2 => ?_) (fun j151 hj151 h => ?_)
  ·
    refine rs_aldn wi_409_151 l0 ?_
    refine dq_gr wi_409_152 wf_409_206 tf_174_56 ?_
    refine rs_ildn wi_409_155 l2 ?_
    refine rs_aldn wi_409_156 l0 ?_
    refine dq_gi wi_409_157 wf_409_471 tf_174_67 ?_
    obtain ⟨g15, h⟩ := wp_gd h
    obtain ⟨c16, e17, h⟩ := wp_lt h
    refine dq_iast wi_409_160 t_218 g15 e17 ?_
    refine rs_aldn wi_409_161 l0 ?_
    refine rs_V wi_409_162 wc_409_505 rfl (dq_isa tf_174_0 wa_15_381) (Nat.le_trans (by decide) hF) (ml_le wm_381 (Nat.le_trans (by decide) hLo)) rfl (sp_381 hw (Nat.le_trans (by decide : 2 ≤ 7 - 1) (Nat.sub_le_sub_right hF 1)) (ml_sub wm_381 (Nat.le_trans (by decide : 42 ≤ 178 - 20) (Nat.sub_le_sub_right hLo 20))) (wp_bind h) (fun r18 h => rs_back1 ?_))
    refine dl_lstn wi_409_165 rfl (fun lv l3 t19 => ?_)
    exact rs_vret wi_409_166 wr_409 (hQ r18.2 h)
  by_cases q20 : (c.1 211 (ix a2)) = 14
  ·
    have h := wp_pos h q20
    refine rs_tsk (tg := 88) (off := 82) (v := 14) wi_409_6 q20 (by decide) (by decide) ⟨by decide, by decide⟩ ?_
    refine rs_aldn wi_409_88 l0 ?_
    refine rs_pure wi_409_89 rfl ?_
    refine rs_topi (v := 0) (by decide) ?_
    refine rs_pure wi_409_90 rfl ?_
    refine rs_topi (v := 1) (by decide) ?_
    refine rs_V wi_409_91 wc_409_571 rfl (dq_isa tf_174_0 wa_15_382) (Nat.le_trans (by decide) hF) (ml_le wm_382 (Nat.le_trans (by decide) hLo)) rfl (sp_382 hw (Nat.le_trans (by decide : 2 ≤ 7 - 1) (Nat.sub_le_sub_right hF 1)) (ml_sub wm_382 (Nat.le_trans (by decide : 42 ≤ 178 - 26) (Nat.sub_le_sub_right hLo 26))) (wp_bind h) (fun r21 h => rs_back0 ?_))
    refine rs_aldn wi_409_94 l0 ?_
    refine dq_gr wi_409_95 wf_409_194 tf_174_52 ?_
    refine rs_ildn wi_409_98 l2 ?_
    refine rs_aldn wi_409_99 l0 ?_
    refine dq_gl wi_409_100 wf_409_486 tf_174_68 ?_
    refine rs_pure wi_409_103 rfl ?_
    obtain ⟨g22, h⟩ := wp_gd h
    obtain ⟨c23, e24, h⟩ := wp_lt h
    refine dq_iast wi_409_104 t_214 g22 e24 ?_
    refine rs_aldn wi_409_105 l0 ?_
    refine rs_ildn wi_409_106 l2 ?_
    refine rs_V wi_409_107 wc_409_602 rfl (dq_isa tf_174_0 wa_15_411) (Nat.le_trans (by decide) hF) (ml_le wm_411 (Nat.le_trans (by decide) hLo)) rfl (sp_411 hw (Nat.le_trans (by decide : 6 ≤ 7 - 1) (Nat.sub_le_sub_right hF 1)) (ml_sub wm_411 (Nat.le_trans (by decide : 154 ≤ 178 - 24) (Nat.sub_le_sub_right hLo 24))) (wp_bind h) (fun r25 h => rs_back0 ?_))
    exact rs_vret wi_409_110 wr_409 (hQ r25 h)
  have h := wp_neg h q20
  by_cases q26 : (c.1 211 (ix a2)) = 15
  ·
    have h := wp_pos h q26
    refine rs_tsk (tg := 111) (off := 105) (v := 15) wi_409_6 q26 (by decide) (by decide) ⟨by decide, by decide⟩ ?_
    refine rs_aldn wi_409_111 l0 ?_
    refine rs_ildn wi_409_112 l2 ?_
    refine rs_V wi_409_113 wc_409_602 rfl (dq_isa tf_174_0 wa_15_411) (Nat.le_trans (by decide) hF) (ml_le wm_411 (Nat.le_trans (by decide) hLo)) rfl (sp_411 hw (Nat.le_trans (by decide : 6 ≤ 7 - 1) (Nat.sub_le_sub_right hF 1)) (ml_sub wm_411 (Nat.le_trans (by decide : 154 ≤ 178 - 24) (Nat.sub_le_sub_right hLo 24))) (wp_bind h) (fun r27 h => rs_back0 ?_))
    exact rs_vret wi_409_116 wr_409 (hQ r27 h)
  have h := wp_neg h q26
  by_cases q28 : (c.1 211 (ix a2)) = 16
  ·
    have h := wp_pos h q28
    refine rs_tsk (tg := 117) (off := 111) (v := 16) wi_409_6 q28 (by decide) (by decide) ⟨by decide, by decide⟩ ?_
    exact hj117 _ h _ l0 l1 l2
  have h := wp_neg h q28
  by_cases q29 : (c.1 211 (ix a2)) = 17
  ·
    have h := wp_pos h q29
    refine rs_tsk (tg := 117) (off := 111) (v := 17) wi_409_6 q29 (by decide) (by decide) ⟨by decide, by decide⟩ ?_
    exact hj117 _ h _ l0 l1 l2
  have h := wp_neg h q29
  by_cases q30 : (c.1 211 (ix a2)) = 18
  ·
    have h := wp_pos h q30
    refine rs_tsk (tg := 124) (off := 118) (v := 18) wi_409_6 q30 (by decide) (by decide) ⟨by decide, by decide⟩ ?_
    exact hj124 _ h _ l0 l2
  have h := wp_neg h q30
  by_cases q31 : (c.1 211 (ix a2)) = 19
  ·
    have h := wp_pos h q31
    refine rs_tsk (tg := 124) (off := 118) (v := 19) wi_409_6 q31 (by decide) (by decide) ⟨by decide, by decide⟩ ?_
    exact hj124 _ h _ l0 l2
  have h := wp_neg h q31
  by_cases q32 : (c.1 211 (ix a2)) = 20
  ·
    have h := wp_pos h q32
    refine rs_tsk (tg := 124) (off := 118) (v := 20) wi_409_6 q32 (by decide) (by decide) ⟨by decide, by decide⟩ ?_
    exact hj124 _ h _ l0 l2
  have h := wp_neg h q32
  by_cases q33 : (c.1 211 (ix a2)) = 21
  ·
    have h := wp_pos h q33
    refine rs_tsk (tg := 194) (off := 188) (v := 21) wi_409_6 q33 (by decide) (by decide) ⟨by decide, by decide⟩ ?_
    exact hj194 _ h _
  have h := wp_neg h q33
  by_cases q34 : (c.1 211 (ix a2)) = 22
  ·
    have h := wp_pos h q34
    refine rs_tsk (tg := 194) (off := 188) (v := 22) wi_409_6 q34 (by decide) (by decide) ⟨by decide, by decide⟩ ?_
    exact hj194 _ h _
  have h := wp_neg h q34
  by_cases q35 : (c.1 211 (ix a2)) = 23
  ·
    have h := wp_pos h q35
    refine rs_tsk (tg := 194) (off := 188) (v := 23) wi_409_6 q35 (by decide) (by decide) ⟨by decide, by decide⟩ ?_
    exact hj194 _ h _
  have h := wp_neg h q35
  by_cases q36 : (c.1 211 (ix a2)) = 24
  ·
    have h := wp_pos h q36
    refine rs_tsk (tg := 194) (off := 188) (v := 24) wi_409_6 q36 (by decide) (by decide) ⟨by decide, by decide⟩ ?_
    exact hj194 _ h _
  have h := wp_neg h q36
  by_cases q37 : (c.1 211 (ix a2)) = 25
  ·
    have h := wp_pos h q37
    refine rs_tsk (tg := 194) (off := 188) (v := 25) wi_409_6 q37 (by decide) (by decide) ⟨by decide, by decide⟩ ?_
    exact hj194 _ h _
  have h := wp_neg h q37
  by_cases q38 : (c.1 211 (ix a2)) = 26
  ·
    have h := wp_pos h q38
    refine rs_tsk (tg := 194) (off := 188) (v := 26) wi_409_6 q38 (by decide) (by decide) ⟨by decide, by decide⟩ ?_
    exact hj194 _ h _
  have h := wp_neg h q38
  by_cases q39 : (c.1 211 (ix a2)) = 27
  ·
    have h := wp_pos h q39
    refine rs_tsk (tg := 151) (off := 145) (v := 27) wi_409_6 q39 (by decide) (by decide) ⟨by decide, by decide⟩ ?_
    exact hj151 _ h _ l0 l2
  have h := wp_neg h q39
  by_cases q40 : (c.1 211 (ix a2)) = 28
  ·
    have h := wp_pos h q40
    refine rs_tsk (tg := 151) (off := 145) (v := 28) wi_409_6 q40 (by decide) (by decide) ⟨by decide, by decide⟩ ?_
    exact hj151 _ h _ l0 l2
  have h := wp_neg h q40
  by_cases q41 : (c.1 211 (ix a2)) = 29
  ·
    have h := wp_pos h q41
    refine rs_tsk (tg := 167) (off := 161) (v := 29) wi_409_6 q41 (by decide) (by decide) ⟨by decide, by decide⟩ ?_
    refine rs_aldn wi_409_167 l0 ?_
    refine rs_ildn wi_409_168 l2 ?_
    refine rs_V wi_409_169 wc_409_608 rfl (dq_isa tf_174_0 wa_15_410) (Nat.le_trans (by decide) hF) (ml_le wm_410 (Nat.le_trans (by decide) hLo)) rfl (sp_410 hw (Nat.le_trans (by decide : 3 ≤ 7 - 1) (Nat.sub_le_sub_right hF 1)) (ml_sub wm_410 (Nat.le_trans (by decide : 63 ≤ 178 - 24) (Nat.sub_le_sub_right hLo 24))) (wp_bind h) (fun r42 h => rs_back0 ?_))
    refine rs_aldn wi_409_172 l0 ?_
    refine dq_gr wi_409_173 wf_409_206 tf_174_56 ?_
    refine rs_ildn wi_409_176 l2 ?_
    refine rs_aldn wi_409_177 l0 ?_
    refine dq_gi wi_409_178 wf_409_471 tf_174_67 ?_
    obtain ⟨g43, h⟩ := wp_gd h
    obtain ⟨c44, e45, h⟩ := wp_lt h
    refine dq_iast wi_409_181 t_218 g43 e45 ?_
    refine rs_aldn wi_409_182 l0 ?_
    refine rs_V wi_409_183 wc_409_505 rfl (dq_isa tf_174_0 wa_15_381) (Nat.le_trans (by decide) hF) (ml_le wm_381 (Nat.le_trans (by decide) hLo)) rfl (sp_381 hw (Nat.le_trans (by decide : 2 ≤ 7 - 1) (Nat.sub_le_sub_right hF 1)) (ml_sub wm_381 (Nat.le_trans (by decide : 42 ≤ 178 - 20) (Nat.sub_le_sub_right hLo 20))) (wp_bind h) (fun r46 h => rs_back1 ?_))
    refine dl_lstn wi_409_186 rfl (fun lv l3 t47 => ?_)
    exact rs_vret wi_409_187 wr_409 (hQ r46.2 h)
  have h := wp_neg h q41
  by_cases q48 : (c.1 211 (ix a2)) = 30
  ·
    have h := wp_pos h q48
    refine rs_tsk (tg := 188) (off := 182) (v := 30) wi_409_6 q48 (by decide) (by decide) ⟨by decide, by decide⟩ ?_
    refine rs_aldn wi_409_188 l0 ?_
    refine rs_ildn wi_409_189 l2 ?_
    refine rs_V wi_409_190 wc_409_608 rfl (dq_isa tf_174_0 wa_15_410) (Nat.le_trans (by decide) hF) (ml_le wm_410 (Nat.le_trans (by decide) hLo)) rfl (sp_410 hw (Nat.le_trans (by decide : 3 ≤ 7 - 1) (Nat.sub_le_sub_right hF 1)) (ml_sub wm_410 (Nat.le_trans (by decide : 63 ≤ 178 - 24) (Nat.sub_le_sub_right hLo 24))) (wp_bind h) (fun r49 h => rs_back0 ?_))
    exact rs_vret wi_409_193 wr_409 (hQ r49 h)
  have h := wp_neg h q48
  refine rs_tsd (tg := 194) wi_409_6 (rz_sw fun k k1 k2 => by
    have kk : k = 14 ∨ k = 15 ∨ k = 16 ∨ k = 17 ∨ k = 18 ∨ k = 19 ∨ k = 20 ∨ k = 21 ∨ k = 22 ∨ k = 23 ∨ k = 24 ∨ k = 25 ∨ k = 26 ∨ k = 27 ∨ k = 28 ∨ k = 29 ∨ k = 30 := by omega
    rcases kk with rfl | rfl | rfl | rfl | rfl | rfl | rfl | rfl | rfl | rfl | rfl | rfl | rfl | rfl | rfl | rfl | rfl
    · exact q20
    · exact q26
    · exact q28
    · exact q29
    · exact q30
    · exact q31
    · exact q32
    · exact q33
    · exact q34
    · exact q35
    · exact q36
    · exact q37
    · exact q38
    · exact q39
    · exact q40
    · exact q41
    · exact q48
    ) ⟨by decide, by decide⟩ ?_
  exact hj194 _ h _
theorem t_210 : ta false 210 0 96 := ⟨rfl, by decide, by decide⟩
theorem t_212 : ta false 212 1 3840 := ⟨rfl, by decide, by decide⟩
theorem t_213 : ta false 213 0 3840 := ⟨rfl, by decide, by decide⟩
theorem t_216 : ta false 216 0 3840 := ⟨rfl, by decide, by decide⟩
theorem tf_174_48 : fo false 174 15 48 (.ref 210) := ⟨_, rfl, rfl, by decide, by decide⟩
theorem tf_174_50 : fo false 174 15 50 (.ref 212) := ⟨_, rfl, rfl, by decide, by decide⟩
theorem tf_174_51 : fo false 174 15 51 (.ref 213) := ⟨_, rfl, rfl, by decide, by decide⟩
theorem tf_174_54 : fo false 174 15 54 (.ref 216) := ⟨_, rfl, rfl, by decide, by decide⟩
theorem wa_15_409 : rz_cn 15 (rx_yn (rt_P sc fm) 409).cls = true := (by decide +kernel : rz_cn 15 (rt_yn 409).cls = true)
theorem wc_408_432 : rx_ct (rt_P sc fm) 408 432 = some (0, 97, 2) := (by decide +kernel : rt_ct 408 432 = some (0, 97, 2))
theorem wc_408_480 : rx_ct (rt_P sc fm) 408 480 = some (0, 103, 0) := (by decide +kernel : rt_ct 408 480 = some (0, 103, 0))
theorem wc_408_521 : rx_ct (rt_P sc fm) 408 521 = some (0, 380, 1) := (by decide +kernel : rt_ct 408 521 = some (0, 380, 1))
theorem wc_408_599 : rx_ct (rt_P sc fm) 408 599 = some (0, 409, 2) := (by decide +kernel : rt_ct 408 599 = some (0, 409, 2))
theorem wf_408_182 : rx_ft (rt_P sc fm) 408 182 = some (15, 48) := (by decide +kernel : rt_ft 408 182 = some (15, 48))
theorem wf_408_185 : rx_ft (rt_P sc fm) 408 185 = some (15, 49) := (by decide +kernel : rt_ft 408 185 = some (15, 49))
theorem wf_408_188 : rx_ft (rt_P sc fm) 408 188 = some (15, 50) := (by decide +kernel : rt_ft 408 188 = some (15, 50))
theorem wf_408_191 : rx_ft (rt_P sc fm) 408 191 = some (15, 51) := (by decide +kernel : rt_ft 408 191 = some (15, 51))
theorem wf_408_200 : rx_ft (rt_P sc fm) 408 200 = some (15, 54) := (by decide +kernel : rt_ft 408 200 = some (15, 54))
theorem wf_408_209 : rx_ft (rt_P sc fm) 408 209 = some (15, 57) := (by decide +kernel : rt_ft 408 209 = some (15, 57))
theorem wf_408_409 : rx_ft (rt_P sc fm) 408 409 = some (15, 13) := (by decide +kernel : rt_ft 408 409 = some (15, 13))
theorem wf_408_471 : rx_ft (rt_P sc fm) 408 471 = some (15, 67) := (by decide +kernel : rt_ft 408 471 = some (15, 67))
theorem wf_408_84 : rx_ft (rt_P sc fm) 408 84 = some (15, 8) := (by decide +kernel : rt_ft 408 84 = some (15, 8))
theorem wf_408_87 : rx_ft (rt_P sc fm) 408 87 = some (15, 9) := (by decide +kernel : rt_ft 408 87 = some (15, 9))
theorem wf_408_90 : rx_ft (rt_P sc fm) 408 90 = some (15, 10) := (by decide +kernel : rt_ft 408 90 = some (15, 10))
theorem wi_408_0 : ri (rt_P sc fm) 408 0 (.aload_n 0) (1) := ri_of (by decide +kernel) rfl
theorem wi_408_1 : ri (rt_P sc fm) 408 1 (.getfield 84) (4) := ri_of (by decide +kernel) rfl
theorem wi_408_100 : ri (rt_P sc fm) 408 100 (.getfield 471) (103) := ri_of (by decide +kernel) rfl
theorem wi_408_103 : ri (rt_P sc fm) 408 103 (.iaload) (104) := ri_of (by decide +kernel) rfl
theorem wi_408_104 : ri (rt_P sc fm) 408 104 (.ifCond .ne 142) (107) := ri_of (by decide +kernel) rfl
theorem wi_408_107 : ri (rt_P sc fm) 408 107 (.aload_n 0) (108) := ri_of (by decide +kernel) rfl
theorem wi_408_108 : ri (rt_P sc fm) 408 108 (.getfield 90) (111) := ri_of (by decide +kernel) rfl
theorem wi_408_111 : ri (rt_P sc fm) 408 111 (.aload_n 0) (112) := ri_of (by decide +kernel) rfl
theorem wi_408_112 : ri (rt_P sc fm) 408 112 (.getfield 471) (115) := ri_of (by decide +kernel) rfl
theorem wi_408_115 : ri (rt_P sc fm) 408 115 (.laload) (116) := ri_of (by decide +kernel) rfl
theorem wi_408_116 : ri (rt_P sc fm) 408 116 (.lstore 6) (118) := ri_of (by decide +kernel) rfl
theorem wi_408_118 : ri (rt_P sc fm) 408 118 (.iconst 0) (119) := ri_of (by decide +kernel) rfl
theorem wi_408_119 : ri (rt_P sc fm) 408 119 (.istore 8) (121) := ri_of (by decide +kernel) rfl
theorem wi_408_12 : ri (rt_P sc fm) 408 12 (.aload_n 0) (13) := ri_of (by decide +kernel) rfl
theorem wi_408_121 : ri (rt_P sc fm) 408 121 (.iload 8) (123) := ri_of (by decide +kernel) rfl
theorem wi_408_123 : ri (rt_P sc fm) 408 123 (.aload_n 0) (124) := ri_of (by decide +kernel) rfl
theorem wi_408_124 : ri (rt_P sc fm) 408 124 (.getfield 182) (127) := ri_of (by decide +kernel) rfl
theorem wi_408_127 : ri (rt_P sc fm) 408 127 (.iload_n 1) (128) := ri_of (by decide +kernel) rfl
theorem wi_408_128 : ri (rt_P sc fm) 408 128 (.iaload) (129) := ri_of (by decide +kernel) rfl
theorem wi_408_129 : ri (rt_P sc fm) 408 129 (.if_icmp .ge 41) (132) := ri_of (by decide +kernel) rfl
theorem wi_408_13 : ri (rt_P sc fm) 408 13 (.getfield 84) (16) := ri_of (by decide +kernel) rfl
theorem wi_408_132 : ri (rt_P sc fm) 408 132 (.aload_n 0) (133) := ri_of (by decide +kernel) rfl
theorem wi_408_133 : ri (rt_P sc fm) 408 133 (.getfield 188) (136) := ri_of (by decide +kernel) rfl
theorem wi_408_136 : ri (rt_P sc fm) 408 136 (.bipush 40) (138) := ri_of (by decide +kernel) rfl
theorem wi_408_138 : ri (rt_P sc fm) 408 138 (.iload_n 1) (139) := ri_of (by decide +kernel) rfl
theorem wi_408_139 : ri (rt_P sc fm) 408 139 (.imul) (140) := ri_of (by decide +kernel) rfl
theorem wi_408_140 : ri (rt_P sc fm) 408 140 (.iload 8) (142) := ri_of (by decide +kernel) rfl
theorem wi_408_142 : ri (rt_P sc fm) 408 142 (.iadd) (143) := ri_of (by decide +kernel) rfl
theorem wi_408_143 : ri (rt_P sc fm) 408 143 (.laload) (144) := ri_of (by decide +kernel) rfl
theorem wi_408_144 : ri (rt_P sc fm) 408 144 (.lload 6) (146) := ri_of (by decide +kernel) rfl
theorem wi_408_146 : ri (rt_P sc fm) 408 146 (.lcmp) (147) := ri_of (by decide +kernel) rfl
theorem wi_408_147 : ri (rt_P sc fm) 408 147 (.ifCond .ne 17) (150) := ri_of (by decide +kernel) rfl
theorem wi_408_150 : ri (rt_P sc fm) 408 150 (.aload_n 0) (151) := ri_of (by decide +kernel) rfl
theorem wi_408_151 : ri (rt_P sc fm) 408 151 (.iconst 3) (152) := ri_of (by decide +kernel) rfl
theorem wi_408_152 : ri (rt_P sc fm) 408 152 (.aload_n 0) (153) := ri_of (by decide +kernel) rfl
theorem wi_408_153 : ri (rt_P sc fm) 408 153 (.getfield 87) (156) := ri_of (by decide +kernel) rfl
theorem wi_408_156 : ri (rt_P sc fm) 408 156 (.aload_n 0) (157) := ri_of (by decide +kernel) rfl
theorem wi_408_157 : ri (rt_P sc fm) 408 157 (.getfield 471) (160) := ri_of (by decide +kernel) rfl
theorem wi_408_16 : ri (rt_P sc fm) 408 16 (.aload_n 0) (17) := ri_of (by decide +kernel) rfl
theorem wi_408_160 : ri (rt_P sc fm) 408 160 (.iaload) (161) := ri_of (by decide +kernel) rfl
theorem wi_408_161 : ri (rt_P sc fm) 408 161 (.invokevirtual 432) (164) := ri_of (by decide +kernel) rfl
theorem wi_408_164 : ri (rt_P sc fm) 408 164 (.iinc 8 1) (167) := ri_of (by decide +kernel) rfl
theorem wi_408_167 : ri (rt_P sc fm) 408 167 (.goto (-46)) (170) := ri_of (by decide +kernel) rfl
theorem wi_408_17 : ri (rt_P sc fm) 408 17 (.getfield 471) (20) := ri_of (by decide +kernel) rfl
theorem wi_408_170 : ri (rt_P sc fm) 408 170 (.iload 5) (172) := ri_of (by decide +kernel) rfl
theorem wi_408_172 : ri (rt_P sc fm) 408 172 (.ifCond .eq 18) (175) := ri_of (by decide +kernel) rfl
theorem wi_408_175 : ri (rt_P sc fm) 408 175 (.aload_n 0) (176) := ri_of (by decide +kernel) rfl
theorem wi_408_176 : ri (rt_P sc fm) 408 176 (.bipush 6) (178) := ri_of (by decide +kernel) rfl
theorem wi_408_178 : ri (rt_P sc fm) 408 178 (.aload_n 0) (179) := ri_of (by decide +kernel) rfl
theorem wi_408_179 : ri (rt_P sc fm) 408 179 (.getfield 87) (182) := ri_of (by decide +kernel) rfl
theorem wi_408_182 : ri (rt_P sc fm) 408 182 (.aload_n 0) (183) := ri_of (by decide +kernel) rfl
theorem wi_408_183 : ri (rt_P sc fm) 408 183 (.getfield 471) (186) := ri_of (by decide +kernel) rfl
theorem wi_408_186 : ri (rt_P sc fm) 408 186 (.iaload) (187) := ri_of (by decide +kernel) rfl
theorem wi_408_187 : ri (rt_P sc fm) 408 187 (.invokevirtual 432) (190) := ri_of (by decide +kernel) rfl
theorem wi_408_190 : ri (rt_P sc fm) 408 190 (.aload_n 0) (191) := ri_of (by decide +kernel) rfl
theorem wi_408_191 : ri (rt_P sc fm) 408 191 (.dup) (192) := ri_of (by decide +kernel) rfl
theorem wi_408_192 : ri (rt_P sc fm) 408 192 (.getfield 471) (195) := ri_of (by decide +kernel) rfl
theorem wi_408_195 : ri (rt_P sc fm) 408 195 (.iconst 1) (196) := ri_of (by decide +kernel) rfl
theorem wi_408_196 : ri (rt_P sc fm) 408 196 (.iadd) (197) := ri_of (by decide +kernel) rfl
theorem wi_408_197 : ri (rt_P sc fm) 408 197 (.putfield 471) (200) := ri_of (by decide +kernel) rfl
theorem wi_408_20 : ri (rt_P sc fm) 408 20 (.iaload) (21) := ri_of (by decide +kernel) rfl
theorem wi_408_200 : ri (rt_P sc fm) 408 200 (.aload_n 0) (201) := ri_of (by decide +kernel) rfl
theorem wi_408_201 : ri (rt_P sc fm) 408 201 (.bipush 58) (203) := ri_of (by decide +kernel) rfl
theorem wi_408_203 : ri (rt_P sc fm) 408 203 (.invokevirtual 521) (206) := ri_of (by decide +kernel) rfl
theorem wi_408_206 : ri (rt_P sc fm) 408 206 (.aload_n 0) (207) := ri_of (by decide +kernel) rfl
theorem wi_408_207 : ri (rt_P sc fm) 408 207 (.getfield 409) (210) := ri_of (by decide +kernel) rfl
theorem wi_408_21 : ri (rt_P sc fm) 408 21 (.iconst 4) (22) := ri_of (by decide +kernel) rfl
theorem wi_408_210 : ri (rt_P sc fm) 408 210 (.ifCond .ne 36) (213) := ri_of (by decide +kernel) rfl
theorem wi_408_213 : ri (rt_P sc fm) 408 213 (.aload_n 0) (214) := ri_of (by decide +kernel) rfl
theorem wi_408_214 : ri (rt_P sc fm) 408 214 (.getfield 84) (217) := ri_of (by decide +kernel) rfl
theorem wi_408_217 : ri (rt_P sc fm) 408 217 (.aload_n 0) (218) := ri_of (by decide +kernel) rfl
theorem wi_408_218 : ri (rt_P sc fm) 408 218 (.getfield 471) (221) := ri_of (by decide +kernel) rfl
theorem wi_408_22 : ri (rt_P sc fm) 408 22 (.if_icmp .ne 23) (25) := ri_of (by decide +kernel) rfl
theorem wi_408_221 : ri (rt_P sc fm) 408 221 (.iaload) (222) := ri_of (by decide +kernel) rfl
theorem wi_408_222 : ri (rt_P sc fm) 408 222 (.iconst 4) (223) := ri_of (by decide +kernel) rfl
theorem wi_408_223 : ri (rt_P sc fm) 408 223 (.if_icmp .ne 19) (226) := ri_of (by decide +kernel) rfl
theorem wi_408_226 : ri (rt_P sc fm) 408 226 (.aload_n 0) (227) := ri_of (by decide +kernel) rfl
theorem wi_408_227 : ri (rt_P sc fm) 408 227 (.getfield 90) (230) := ri_of (by decide +kernel) rfl
theorem wi_408_230 : ri (rt_P sc fm) 408 230 (.aload_n 0) (231) := ri_of (by decide +kernel) rfl
theorem wi_408_231 : ri (rt_P sc fm) 408 231 (.getfield 471) (234) := ri_of (by decide +kernel) rfl
theorem wi_408_234 : ri (rt_P sc fm) 408 234 (.laload) (235) := ri_of (by decide +kernel) rfl
theorem wi_408_235 : ri (rt_P sc fm) 408 235 (.ldc2_w 597) (238) := ri_of (by decide +kernel) rfl
theorem wi_408_238 : ri (rt_P sc fm) 408 238 (.lcmp) (239) := ri_of (by decide +kernel) rfl
theorem wi_408_239 : ri (rt_P sc fm) 408 239 (.ifCond .ge 7) (242) := ri_of (by decide +kernel) rfl
theorem wi_408_242 : ri (rt_P sc fm) 408 242 (.aload_n 0) (243) := ri_of (by decide +kernel) rfl
theorem wi_408_243 : ri (rt_P sc fm) 408 243 (.invokevirtual 480) (246) := ri_of (by decide +kernel) rfl
theorem wi_408_246 : ri (rt_P sc fm) 408 246 (.iload 5) (248) := ri_of (by decide +kernel) rfl
theorem wi_408_248 : ri (rt_P sc fm) 408 248 (.ifCond .eq 16) (251) := ri_of (by decide +kernel) rfl
theorem wi_408_25 : ri (rt_P sc fm) 408 25 (.aload_n 0) (26) := ri_of (by decide +kernel) rfl
theorem wi_408_251 : ri (rt_P sc fm) 408 251 (.aload_n 0) (252) := ri_of (by decide +kernel) rfl
theorem wi_408_252 : ri (rt_P sc fm) 408 252 (.bipush 6) (254) := ri_of (by decide +kernel) rfl
theorem wi_408_254 : ri (rt_P sc fm) 408 254 (.aload_n 0) (255) := ri_of (by decide +kernel) rfl
theorem wi_408_255 : ri (rt_P sc fm) 408 255 (.getfield 87) (258) := ri_of (by decide +kernel) rfl
theorem wi_408_258 : ri (rt_P sc fm) 408 258 (.iload 4) (260) := ri_of (by decide +kernel) rfl
theorem wi_408_26 : ri (rt_P sc fm) 408 26 (.getfield 90) (29) := ri_of (by decide +kernel) rfl
theorem wi_408_260 : ri (rt_P sc fm) 408 260 (.iaload) (261) := ri_of (by decide +kernel) rfl
theorem wi_408_261 : ri (rt_P sc fm) 408 261 (.invokevirtual 432) (264) := ri_of (by decide +kernel) rfl
theorem wi_408_264 : ri (rt_P sc fm) 408 264 (.aload_n 0) (265) := ri_of (by decide +kernel) rfl
theorem wi_408_265 : ri (rt_P sc fm) 408 265 (.getfield 409) (268) := ri_of (by decide +kernel) rfl
theorem wi_408_268 : ri (rt_P sc fm) 408 268 (.ifCond .eq 4) (271) := ri_of (by decide +kernel) rfl
theorem wi_408_271 : ri (rt_P sc fm) 408 271 (.return_) (272) := ri_of (by decide +kernel) rfl
theorem wi_408_272 : ri (rt_P sc fm) 408 272 (.aload_n 0) (273) := ri_of (by decide +kernel) rfl
theorem wi_408_273 : ri (rt_P sc fm) 408 273 (.getfield 188) (276) := ri_of (by decide +kernel) rfl
theorem wi_408_276 : ri (rt_P sc fm) 408 276 (.iload_n 3) (277) := ri_of (by decide +kernel) rfl
theorem wi_408_277 : ri (rt_P sc fm) 408 277 (.lload 6) (279) := ri_of (by decide +kernel) rfl
theorem wi_408_279 : ri (rt_P sc fm) 408 279 (.lastore) (280) := ri_of (by decide +kernel) rfl
theorem wi_408_280 : ri (rt_P sc fm) 408 280 (.aload_n 0) (281) := ri_of (by decide +kernel) rfl
theorem wi_408_281 : ri (rt_P sc fm) 408 281 (.getfield 191) (284) := ri_of (by decide +kernel) rfl
theorem wi_408_284 : ri (rt_P sc fm) 408 284 (.iload_n 3) (285) := ri_of (by decide +kernel) rfl
theorem wi_408_285 : ri (rt_P sc fm) 408 285 (.aload_n 0) (286) := ri_of (by decide +kernel) rfl
theorem wi_408_286 : ri (rt_P sc fm) 408 286 (.getfield 87) (289) := ri_of (by decide +kernel) rfl
theorem wi_408_289 : ri (rt_P sc fm) 408 289 (.iload 4) (291) := ri_of (by decide +kernel) rfl
theorem wi_408_29 : ri (rt_P sc fm) 408 29 (.aload_n 0) (30) := ri_of (by decide +kernel) rfl
theorem wi_408_291 : ri (rt_P sc fm) 408 291 (.iaload) (292) := ri_of (by decide +kernel) rfl
theorem wi_408_292 : ri (rt_P sc fm) 408 292 (.iastore) (293) := ri_of (by decide +kernel) rfl
theorem wi_408_293 : ri (rt_P sc fm) 408 293 (.aload_n 0) (294) := ri_of (by decide +kernel) rfl
theorem wi_408_294 : ri (rt_P sc fm) 408 294 (.getfield 185) (297) := ri_of (by decide +kernel) rfl
theorem wi_408_297 : ri (rt_P sc fm) 408 297 (.iload_n 3) (298) := ri_of (by decide +kernel) rfl
theorem wi_408_298 : ri (rt_P sc fm) 408 298 (.aload_n 0) (299) := ri_of (by decide +kernel) rfl
theorem wi_408_299 : ri (rt_P sc fm) 408 299 (.getfield 90) (302) := ri_of (by decide +kernel) rfl
theorem wi_408_30 : ri (rt_P sc fm) 408 30 (.getfield 471) (33) := ri_of (by decide +kernel) rfl
theorem wi_408_302 : ri (rt_P sc fm) 408 302 (.aload_n 0) (303) := ri_of (by decide +kernel) rfl
theorem wi_408_303 : ri (rt_P sc fm) 408 303 (.getfield 471) (306) := ri_of (by decide +kernel) rfl
theorem wi_408_306 : ri (rt_P sc fm) 408 306 (.laload) (307) := ri_of (by decide +kernel) rfl
theorem wi_408_307 : ri (rt_P sc fm) 408 307 (.l2i) (308) := ri_of (by decide +kernel) rfl
theorem wi_408_308 : ri (rt_P sc fm) 408 308 (.iastore) (309) := ri_of (by decide +kernel) rfl
theorem wi_408_309 : ri (rt_P sc fm) 408 309 (.aload_n 0) (310) := ri_of (by decide +kernel) rfl
theorem wi_408_310 : ri (rt_P sc fm) 408 310 (.dup) (311) := ri_of (by decide +kernel) rfl
theorem wi_408_311 : ri (rt_P sc fm) 408 311 (.getfield 471) (314) := ri_of (by decide +kernel) rfl
theorem wi_408_314 : ri (rt_P sc fm) 408 314 (.iconst 1) (315) := ri_of (by decide +kernel) rfl
theorem wi_408_315 : ri (rt_P sc fm) 408 315 (.iadd) (316) := ri_of (by decide +kernel) rfl
theorem wi_408_316 : ri (rt_P sc fm) 408 316 (.putfield 471) (319) := ri_of (by decide +kernel) rfl
theorem wi_408_319 : ri (rt_P sc fm) 408 319 (.aload_n 0) (320) := ri_of (by decide +kernel) rfl
theorem wi_408_320 : ri (rt_P sc fm) 408 320 (.getfield 209) (323) := ri_of (by decide +kernel) rfl
theorem wi_408_323 : ri (rt_P sc fm) 408 323 (.iload_n 3) (324) := ri_of (by decide +kernel) rfl
theorem wi_408_324 : ri (rt_P sc fm) 408 324 (.iconst 0) (325) := ri_of (by decide +kernel) rfl
theorem wi_408_325 : ri (rt_P sc fm) 408 325 (.iastore) (326) := ri_of (by decide +kernel) rfl
theorem wi_408_326 : ri (rt_P sc fm) 408 326 (.aload_n 0) (327) := ri_of (by decide +kernel) rfl
theorem wi_408_327 : ri (rt_P sc fm) 408 327 (.getfield 200) (330) := ri_of (by decide +kernel) rfl
theorem wi_408_33 : ri (rt_P sc fm) 408 33 (.laload) (34) := ri_of (by decide +kernel) rfl
theorem wi_408_330 : ri (rt_P sc fm) 408 330 (.iload_n 3) (331) := ri_of (by decide +kernel) rfl
theorem wi_408_331 : ri (rt_P sc fm) 408 331 (.iconst (-1)) (332) := ri_of (by decide +kernel) rfl
theorem wi_408_332 : ri (rt_P sc fm) 408 332 (.iastore) (333) := ri_of (by decide +kernel) rfl
theorem wi_408_333 : ri (rt_P sc fm) 408 333 (.aload_n 0) (334) := ri_of (by decide +kernel) rfl
theorem wi_408_334 : ri (rt_P sc fm) 408 334 (.iload_n 1) (335) := ri_of (by decide +kernel) rfl
theorem wi_408_335 : ri (rt_P sc fm) 408 335 (.iload_n 3) (336) := ri_of (by decide +kernel) rfl
theorem wi_408_336 : ri (rt_P sc fm) 408 336 (.invokevirtual 599) (339) := ri_of (by decide +kernel) rfl
theorem wi_408_339 : ri (rt_P sc fm) 408 339 (.aload_n 0) (340) := ri_of (by decide +kernel) rfl
theorem wi_408_34 : ri (rt_P sc fm) 408 34 (.ldc2_w 597) (37) := ri_of (by decide +kernel) rfl
theorem wi_408_340 : ri (rt_P sc fm) 408 340 (.bipush 59) (342) := ri_of (by decide +kernel) rfl
theorem wi_408_342 : ri (rt_P sc fm) 408 342 (.invokevirtual 521) (345) := ri_of (by decide +kernel) rfl
theorem wi_408_345 : ri (rt_P sc fm) 408 345 (.aload_n 0) (346) := ri_of (by decide +kernel) rfl
theorem wi_408_346 : ri (rt_P sc fm) 408 346 (.getfield 182) (349) := ri_of (by decide +kernel) rfl
theorem wi_408_349 : ri (rt_P sc fm) 408 349 (.iload_n 1) (350) := ri_of (by decide +kernel) rfl
theorem wi_408_350 : ri (rt_P sc fm) 408 350 (.dup2) (351) := ri_of (by decide +kernel) rfl
theorem wi_408_351 : ri (rt_P sc fm) 408 351 (.iaload) (352) := ri_of (by decide +kernel) rfl
theorem wi_408_352 : ri (rt_P sc fm) 408 352 (.iconst 1) (353) := ri_of (by decide +kernel) rfl
theorem wi_408_353 : ri (rt_P sc fm) 408 353 (.iadd) (354) := ri_of (by decide +kernel) rfl
theorem wi_408_354 : ri (rt_P sc fm) 408 354 (.iastore) (355) := ri_of (by decide +kernel) rfl
theorem wi_408_355 : ri (rt_P sc fm) 408 355 (.return_) (356) := ri_of (by decide +kernel) rfl
theorem wi_408_37 : ri (rt_P sc fm) 408 37 (.lcmp) (38) := ri_of (by decide +kernel) rfl
theorem wi_408_38 : ri (rt_P sc fm) 408 38 (.ifCond .lt 7) (41) := ri_of (by decide +kernel) rfl
theorem wi_408_4 : ri (rt_P sc fm) 408 4 (.aload_n 0) (5) := ri_of (by decide +kernel) rfl
theorem wi_408_41 : ri (rt_P sc fm) 408 41 (.iconst 1) (42) := ri_of (by decide +kernel) rfl
theorem wi_408_42 : ri (rt_P sc fm) 408 42 (.goto 4) (45) := ri_of (by decide +kernel) rfl
theorem wi_408_45 : ri (rt_P sc fm) 408 45 (.iconst 0) (46) := ri_of (by decide +kernel) rfl
theorem wi_408_46 : ri (rt_P sc fm) 408 46 (.istore_n 2) (47) := ri_of (by decide +kernel) rfl
theorem wi_408_47 : ri (rt_P sc fm) 408 47 (.iload_n 2) (48) := ri_of (by decide +kernel) rfl
theorem wi_408_48 : ri (rt_P sc fm) 408 48 (.ifCond .ne 8) (51) := ri_of (by decide +kernel) rfl
theorem wi_408_5 : ri (rt_P sc fm) 408 5 (.getfield 471) (8) := ri_of (by decide +kernel) rfl
theorem wi_408_51 : ri (rt_P sc fm) 408 51 (.aload_n 0) (52) := ri_of (by decide +kernel) rfl
theorem wi_408_52 : ri (rt_P sc fm) 408 52 (.invokevirtual 480) (55) := ri_of (by decide +kernel) rfl
theorem wi_408_55 : ri (rt_P sc fm) 408 55 (.return_) (56) := ri_of (by decide +kernel) rfl
theorem wi_408_56 : ri (rt_P sc fm) 408 56 (.bipush 40) (58) := ri_of (by decide +kernel) rfl
theorem wi_408_58 : ri (rt_P sc fm) 408 58 (.iload_n 1) (59) := ri_of (by decide +kernel) rfl
theorem wi_408_59 : ri (rt_P sc fm) 408 59 (.imul) (60) := ri_of (by decide +kernel) rfl
theorem wi_408_60 : ri (rt_P sc fm) 408 60 (.aload_n 0) (61) := ri_of (by decide +kernel) rfl
theorem wi_408_61 : ri (rt_P sc fm) 408 61 (.getfield 182) (64) := ri_of (by decide +kernel) rfl
theorem wi_408_64 : ri (rt_P sc fm) 408 64 (.iload_n 1) (65) := ri_of (by decide +kernel) rfl
theorem wi_408_65 : ri (rt_P sc fm) 408 65 (.iaload) (66) := ri_of (by decide +kernel) rfl
theorem wi_408_66 : ri (rt_P sc fm) 408 66 (.iadd) (67) := ri_of (by decide +kernel) rfl
theorem wi_408_67 : ri (rt_P sc fm) 408 67 (.istore_n 3) (68) := ri_of (by decide +kernel) rfl
theorem wi_408_68 : ri (rt_P sc fm) 408 68 (.aload_n 0) (69) := ri_of (by decide +kernel) rfl
theorem wi_408_69 : ri (rt_P sc fm) 408 69 (.getfield 471) (72) := ri_of (by decide +kernel) rfl
theorem wi_408_72 : ri (rt_P sc fm) 408 72 (.istore 4) (74) := ri_of (by decide +kernel) rfl
theorem wi_408_74 : ri (rt_P sc fm) 408 74 (.aload_n 0) (75) := ri_of (by decide +kernel) rfl
theorem wi_408_75 : ri (rt_P sc fm) 408 75 (.getfield 182) (78) := ri_of (by decide +kernel) rfl
theorem wi_408_78 : ri (rt_P sc fm) 408 78 (.iload_n 1) (79) := ri_of (by decide +kernel) rfl
theorem wi_408_79 : ri (rt_P sc fm) 408 79 (.iaload) (80) := ri_of (by decide +kernel) rfl
theorem wi_408_8 : ri (rt_P sc fm) 408 8 (.iaload) (9) := ri_of (by decide +kernel) rfl
theorem wi_408_80 : ri (rt_P sc fm) 408 80 (.bipush 40) (82) := ri_of (by decide +kernel) rfl
theorem wi_408_82 : ri (rt_P sc fm) 408 82 (.if_icmp .ne 7) (85) := ri_of (by decide +kernel) rfl
theorem wi_408_85 : ri (rt_P sc fm) 408 85 (.iconst 1) (86) := ri_of (by decide +kernel) rfl
theorem wi_408_86 : ri (rt_P sc fm) 408 86 (.goto 4) (89) := ri_of (by decide +kernel) rfl
theorem wi_408_89 : ri (rt_P sc fm) 408 89 (.iconst 0) (90) := ri_of (by decide +kernel) rfl
theorem wi_408_9 : ri (rt_P sc fm) 408 9 (.ifCond .eq 32) (12) := ri_of (by decide +kernel) rfl
theorem wi_408_90 : ri (rt_P sc fm) 408 90 (.istore 5) (92) := ri_of (by decide +kernel) rfl
theorem wi_408_92 : ri (rt_P sc fm) 408 92 (.lconst 0) (93) := ri_of (by decide +kernel) rfl
theorem wi_408_93 : ri (rt_P sc fm) 408 93 (.lstore 6) (95) := ri_of (by decide +kernel) rfl
theorem wi_408_95 : ri (rt_P sc fm) 408 95 (.aload_n 0) (96) := ri_of (by decide +kernel) rfl
theorem wi_408_96 : ri (rt_P sc fm) 408 96 (.getfield 84) (99) := ri_of (by decide +kernel) rfl
theorem wi_408_99 : ri (rt_P sc fm) 408 99 (.aload_n 0) (100) := ri_of (by decide +kernel) rfl
theorem wk_408_597 : rx_kt (rt_P sc fm) 408 597 = some (.long (14)) := (by decide +kernel : rt_kt 408 597 = some (.long (14)))
theorem wm_409 : rx_ml (rt_P sc fm) 409 = 5 := (by decide +kernel : rt_ml 409 = 5)
theorem wp_408_471 : rx_pt (rt_P sc fm) 408 471 = some (15, 67, .int) := (by decide +kernel : rt_pt 408 471 = some (15, 67, .int))
theorem wr_408 : rx_rt (rt_P sc fm) 408 = none := (by decide +kernel : rt_rt 408 = none)
/-- MarkHouseModel.readAct(I)V -/
def d_408 (n : Nat) (a1 : Int32) (c : cS) : Option (cS) :=
  if ib (c.1 174 67) 4001 then
  jn (fun p2 : Int32 =>
    if p2 = 0 then
      Option.bind (d_103 n c) (fun r70 =>
      some r70)
    else
      if ib a1 96 then
      lt (((40 * a1) + (c.1 210 (ix a1))) : Int32) (fun v6 =>
      lt ((c.1 174 67) : Int32) (fun v9 =>
      if ib a1 96 then
      jn (fun p12 : Int32 =>
        if ib (c.1 174 67) 4001 then
        jn (fun p16 : Int64 × cS =>
          jn (fun p17 : cS =>
            if (p17.1 174 13) = 0 then
              if ib v6 3840 then
              lt (pL p17 212 (ix v6) p16.1) (fun c19 =>
              if ib v9 4001 then
              if ib v6 3840 then
              lt (pI c19 213 (ix v6) (c19.1 179 (ix v9))) (fun c23 =>
              if ib (c23.1 174 67) 4001 then
              if ib v6 3840 then
              lt (pI c23 211 (ix v6) (((c23.2 180 (ix (c23.1 174 67))) : Int64).toInt32)) (fun c27 =>
              lt (pI c27 174 67 ((c27.1 174 67) + 1)) (fun c29 =>
              if ib v6 3840 then
              lt (pI c29 219 (ix v6) 0) (fun c32 =>
              if ib v6 3840 then
              lt (pI c32 216 (ix v6) (-1)) (fun c35 =>
              Option.bind (d_409 n a1 v6 c35) (fun r37 =>
              Option.bind (d_380 n 59 r37) (fun r38 =>
              if ib a1 96 then
              if ib a1 96 then
              lt (pI r38 210 (ix a1) ((r38.1 210 (ix a1)) + 1)) (fun c41 =>
              some c41)
              else none
              else none)))
              else none)
              else none))
              else none
              else none)
              else none
              else none)
              else none
            else
              some p17)
          (fun j264 =>
          if p12 = 0 then
            j264 p16.2
          else
            if ib v9 4001 then
            Option.bind (d_97 n 6 (p16.2.1 179 (ix v9)) p16.2) (fun r44 =>
            j264 r44)
            else none))
        (fun j246 =>
        if (c.1 178 (ix (c.1 174 67))) = 0 then
          if ib (c.1 174 67) 4001 then
          lt ((c.2 180 (ix (c.1 174 67))) : Int64) (fun v47 =>
          Option.bind (whl (R := (cS)) (fun s50 : Int32 × cS =>
            if ib a1 96 then
            if (s50.2.1 210 (ix a1)) ≤ s50.1 then
              some (.inr s50.2)
            else
              if ib ((40 * a1) + s50.1) 3840 then
              jn (fun p53 : cS =>
                lt (s50.1 + 1 : Int32) (fun v55 =>
                some (.inl (v55, p53))))
              (fun j164 =>
              if (lg_cmp (s50.2.2 212 (ix ((40 * a1) + s50.1))) v47) = 0 then
                if ib (s50.2.1 174 67) 4001 then
                Option.bind (d_97 n 3 (s50.2.1 179 (ix (s50.2.1 174 67))) s50.2) (fun r58 =>
                j164 r58)
                else none
              else
                j164 s50.2)
              else none
            else none) n (0, c))
          (fun x59 : cS =>
            jn (fun p60 : cS =>
              lt (pI p60 174 67 ((p60.1 174 67) + 1)) (fun c61 =>
              Option.bind (d_380 n 58 c61) (fun r63 =>
              if (r63.1 174 13) = 0 then
                if ib (r63.1 174 67) 4001 then
                jn (fun p65 : Unit =>
                  Option.bind (d_103 n r63) (fun r66 =>
                  j246 (v47, r66)))
                (fun j242 =>
                if (r63.1 178 (ix (r63.1 174 67))) = 4 then
                  if ib (r63.1 174 67) 4001 then
                  if 0 ≤ (lg_cmp (r63.2 180 (ix (r63.1 174 67))) 14) then
                    j246 (v47, r63)
                  else
                    j242 ()
                  else none
                else
                  j242 ())
                else none
              else
                j246 (v47, r63))))
            (fun j190 =>
            if p12 = 0 then
              j190 x59
            else
              if ib (x59.1 174 67) 4001 then
              Option.bind (d_97 n 6 (x59.1 179 (ix (x59.1 174 67))) x59) (fun r69 =>
              j190 r69)
              else none)))
          else none
        else
          j246 (0, c))
        else none)
      (fun j90 =>
      if (c.1 210 (ix a1)) = 40 then
        j90 1
      else
        j90 0)
      else none))
      else none)
  (fun j46 =>
  jn (fun p71 : Unit =>
    j46 1)
  (fun j41 =>
  if (c.1 178 (ix (c.1 174 67))) = 0 then
    j41 ()
  else
    if ib (c.1 174 67) 4001 then
    jn (fun p73 : Unit =>
      j46 0)
    (fun j45 =>
    if (c.1 178 (ix (c.1 174 67))) = 4 then
      if ib (c.1 174 67) 4001 then
      if (lg_cmp (c.2 180 (ix (c.1 174 67))) 14) < 0 then
        j45 ()
      else
        j41 ()
      else none
    else
      j45 ())
    else none))
  else none
set_option maxRecDepth 100000 in
set_option maxHeartbeats 4000000 in
theorem sp_408 {F Lo n : Nat} {a1 : Int32} {c y : cS} {w : cW} {K : cS → Prop} {Q : ((Option Value) ⊕ String) → List va_E → Prop} (hw : rOK fm w) (hF : 8 ≤ F) (hLo : 202 ≤ Lo)  (h : wp (d_408 n a1 c) K) (hQ : ∀ r, K r → Q (.inl none) (hq false r y w)) : rs (rt_P sc fm) 408 F Lo 0 [(0, .ref 174), (1, .int a1)] [] (hq false c y w) Q := by
  unfold d_408 at h
  obtain ⟨lv, elv⟩ : ∃ lv : rx_L, lv = [(0, .ref 174), (1, .int a1)] := ⟨_, rfl⟩
  rw [← elv]
  have l0 : rx_ld lv 0 = some (.ref 174) := by rw [elv]; rfl
  have l1 : rx_ld lv 1 = some (.int a1) := by rw [elv]; rfl
  refine rs_aldn wi_408_0 l0 ?_
  refine dq_gr wi_408_1 wf_408_84 tf_174_8 ?_
  refine rs_aldn wi_408_4 l0 ?_
  refine dq_gi wi_408_5 wf_408_471 tf_174_67 ?_
  obtain ⟨g1, h⟩ := wp_gd h
  refine dq_iald wi_408_8 t_178 g1 ?_
  refine wp_jn (B := fun p2 : Int32 => ∀ lv, rx_ld lv 0 = some (.ref 174) → rx_ld lv 1 = some (.int a1) → rs (rt_P sc fm) 408 F Lo 46 lv [.int p2] (hq false c y w) Q) h (fun p2 h lv l0 l1 => ?_) (fun j46 hj46 h => ?_)
  ·
    refine dl_istn wi_408_46 rfl (fun lv l2 t3 => ?_)
    have l0 := t3 _ _ (by decide) (Or.inl rfl) l0
    have l1 := t3 _ _ (by decide) (Or.inl rfl) l1
    refine rs_ildn wi_408_47 l2 ?_
    refine rs_ifne (tg := 56) wi_408_48 ⟨by decide, by decide⟩ (fun q => ?_) (fun q => ?_)
    ·
      have h := wp_neg h q
      refine rs_pure wi_408_56 rfl ?_
      refine rs_topi (v := 40) (by decide) ?_
      refine rs_ildn wi_408_58 l1 ?_
      refine rs_pure wi_408_59 rfl ?_
      refine rs_aldn wi_408_60 l0 ?_
      refine dq_gr wi_408_61 wf_408_182 tf_174_48 ?_
      refine rs_ildn wi_408_64 l1 ?_
      obtain ⟨g4, h⟩ := wp_gd h
      refine dq_iald wi_408_65 t_210 g4 ?_
      refine rs_pure wi_408_66 rfl ?_
      obtain ⟨v6, e7, h⟩ := wp_lt h
      refine rs_topi e7 ?_
      refine dl_istn wi_408_67 rfl (fun lv l3 t5 => ?_)
      have l0 := t5 _ _ (by decide) (Or.inl rfl) l0
      have l1 := t5 _ _ (by decide) (Or.inl rfl) l1
      refine rs_aldn wi_408_68 l0 ?_
      refine dq_gi wi_408_69 wf_408_471 tf_174_67 ?_
      obtain ⟨v9, e10, h⟩ := wp_lt h
      refine rs_topi e10 ?_
      refine dl_ist wi_408_72 rfl (fun lv l4 t8 => ?_)
      have l0 := t8 _ _ (by decide) (Or.inl rfl) l0
      have l1 := t8 _ _ (by decide) (Or.inl rfl) l1
      have l3 := t8 _ _ (by decide) (Or.inl rfl) l3
      refine rs_aldn wi_408_74 l0 ?_
      refine dq_gr wi_408_75 wf_408_182 tf_174_48 ?_
      refine rs_ildn wi_408_78 l1 ?_
      obtain ⟨g11, h⟩ := wp_gd h
      refine dq_iald wi_408_79 t_210 g11 ?_
      refine rs_pure wi_408_80 rfl ?_
      refine rs_topi (v := 40) (by decide) ?_
      refine wp_jn (B := fun p12 : Int32 => ∀ lv, rx_ld lv 0 = some (.ref 174) → rx_ld lv 1 = some (.int a1) → rx_ld lv 3 = some (.int v6) → rx_ld lv 4 = some (.int v9) → rs (rt_P sc fm) 408 F Lo 90 lv [.int p12] (hq false c y w) Q) h (fun p12 h lv l0 l1 l3 l4 => ?_) (fun j90 hj90 h => ?_)
      ·
        refine dl_ist wi_408_90 rfl (fun lv l5 t13 => ?_)
        have l0 := t13 _ _ (by decide) (Or.inl rfl) l0
        have l1 := t13 _ _ (by decide) (Or.inl rfl) l1
        have l3 := t13 _ _ (by decide) (Or.inl rfl) l3
        have l4 := t13 _ _ (by decide) (Or.inl rfl) l4
        refine rs_pure wi_408_92 rfl ?_
        refine rs_topl (v := 0) (by decide) ?_
        refine dl_lst wi_408_93 rfl (fun lv l6 t14 => ?_)
        have l0 := t14 _ _ (by decide) (by decide) (Or.inl rfl) l0
        have l1 := t14 _ _ (by decide) (by decide) (Or.inl rfl) l1
        have l3 := t14 _ _ (by decide) (by decide) (Or.inl rfl) l3
        have l4 := t14 _ _ (by decide) (by decide) (Or.inl rfl) l4
        have l5 := t14 _ _ (by decide) (by decide) (Or.inl rfl) l5
        refine rs_aldn wi_408_95 l0 ?_
        refine dq_gr wi_408_96 wf_408_84 tf_174_8 ?_
        refine rs_aldn wi_408_99 l0 ?_
        refine dq_gi wi_408_100 wf_408_471 tf_174_67 ?_
        obtain ⟨g15, h⟩ := wp_gd h
        refine dq_iald wi_408_103 t_178 g15 ?_
        refine wp_jn (B := fun p16 : Int64 × cS => ∀ lv, rx_ld lv 0 = some (.ref 174) → rx_ld lv 1 = some (.int a1) → rx_ld lv 3 = some (.int v6) → rx_ld lv 4 = some (.int v9) → rx_ld lv 5 = some (.int p12) → rx_ld lv 6 = some (.long p16.1) → rs (rt_P sc fm) 408 F Lo 246 lv [] (hq false p16.2 y w) Q) h (fun p16 h lv l0 l1 l3 l4 l5 l6 => ?_) (fun j246 hj246 h => ?_)
        ·
          refine rs_ild wi_408_246 l5 ?_
          refine wp_jn (B := fun p17 : cS => ∀ lv, rx_ld lv 0 = some (.ref 174) → rx_ld lv 1 = some (.int a1) → rx_ld lv 3 = some (.int v6) → rx_ld lv 4 = some (.int v9) → rx_ld lv 6 = some (.long p16.1) → rs (rt_P sc fm) 408 F Lo 264 lv [] (hq false p17 y w) Q) h (fun p17 h lv l0 l1 l3 l4 l6 => ?_) (fun j264 hj264 h => ?_)
          ·
            refine rs_aldn wi_408_264 l0 ?_
            refine dq_gi wi_408_265 wf_408_409 tf_174_13 ?_
            refine rs_ifeq (tg := 272) wi_408_268 ⟨by decide, by decide⟩ (fun q => ?_) (fun q => ?_)
            ·
              have h := wp_pos h q
              refine rs_aldn wi_408_272 l0 ?_
              refine dq_gr wi_408_273 wf_408_188 tf_174_50 ?_
              refine rs_ildn wi_408_276 l3 ?_
              refine rs_lld wi_408_277 l6 ?_
              obtain ⟨g18, h⟩ := wp_gd h
              obtain ⟨c19, e20, h⟩ := wp_lt h
              refine dq_last wi_408_279 t_212 g18 e20 ?_
              refine rs_aldn wi_408_280 l0 ?_
              refine dq_gr wi_408_281 wf_408_191 tf_174_51 ?_
              refine rs_ildn wi_408_284 l3 ?_
              refine rs_aldn wi_408_285 l0 ?_
              refine dq_gr wi_408_286 wf_408_87 tf_174_9 ?_
              refine rs_ild wi_408_289 l4 ?_
              obtain ⟨g21, h⟩ := wp_gd h
              refine dq_iald wi_408_291 t_179 g21 ?_
              obtain ⟨g22, h⟩ := wp_gd h
              obtain ⟨c23, e24, h⟩ := wp_lt h
              refine dq_iast wi_408_292 t_213 g22 e24 ?_
              refine rs_aldn wi_408_293 l0 ?_
              refine dq_gr wi_408_294 wf_408_185 tf_174_49 ?_
              refine rs_ildn wi_408_297 l3 ?_
              refine rs_aldn wi_408_298 l0 ?_
              refine dq_gr wi_408_299 wf_408_90 tf_174_10 ?_
              refine rs_aldn wi_408_302 l0 ?_
              refine dq_gi wi_408_303 wf_408_471 tf_174_67 ?_
              obtain ⟨g25, h⟩ := wp_gd h
              refine dq_lald wi_408_306 t_180 g25 ?_
              refine rs_pure wi_408_307 rfl ?_
              obtain ⟨g26, h⟩ := wp_gd h
              obtain ⟨c27, e28, h⟩ := wp_lt h
              refine dq_iast wi_408_308 t_211 g26 e28 ?_
              refine rs_aldn wi_408_309 l0 ?_
              refine rs_pure wi_408_310 rfl ?_
              refine dq_gi wi_408_311 wf_408_471 tf_174_67 ?_
              refine rs_pure wi_408_314 rfl ?_
              refine rs_topi (v := 1) (by decide) ?_
              refine rs_pure wi_408_315 rfl ?_
              obtain ⟨c29, e30, h⟩ := wp_lt h
              refine dq_pi wi_408_316 wp_408_471 tf_174_67 rfl rfl e30 ?_
              refine rs_aldn wi_408_319 l0 ?_
              refine dq_gr wi_408_320 wf_408_209 tf_174_57 ?_
              refine rs_ildn wi_408_323 l3 ?_
              refine rs_pure wi_408_324 rfl ?_
              refine rs_topi (v := 0) (by decide) ?_
              obtain ⟨g31, h⟩ := wp_gd h
              obtain ⟨c32, e33, h⟩ := wp_lt h
              refine dq_iast wi_408_325 t_219 g31 e33 ?_
              refine rs_aldn wi_408_326 l0 ?_
              refine dq_gr wi_408_327 wf_408_200 tf_174_54 ?_
              refine rs_ildn wi_408_330 l3 ?_
              refine rs_pure wi_408_331 rfl ?_
              refine rs_topi (v := (-1)) (by decide) ?_
              obtain ⟨g34, h⟩ := wp_gd h
              obtain ⟨c35, e36, h⟩ := wp_lt h
              refine dq_iast wi_408_332 t_216 g34 e36 ?_
              refine rs_aldn wi_408_333 l0 ?_
              refine rs_ildn wi_408_334 l1 ?_
              refine rs_ildn wi_408_335 l3 ?_
              refine rs_V wi_408_336 wc_408_599 rfl (dq_isa tf_174_0 wa_15_409) (Nat.le_trans (by decide) hF) (ml_le wm_409 (Nat.le_trans (by decide) hLo)) rfl (sp_409 hw (Nat.le_trans (by decide : 7 ≤ 8 - 1) (Nat.sub_le_sub_right hF 1)) (ml_sub wm_409 (Nat.le_trans (by decide : 178 ≤ 202 - 24) (Nat.sub_le_sub_right hLo 24))) (wp_bind h) (fun r37 h => rs_back0 ?_))
              refine rs_aldn wi_408_339 l0 ?_
              refine rs_pure wi_408_340 rfl ?_
              refine rs_topi (v := 59) (by decide) ?_
              refine rs_V wi_408_342 wc_408_521 rfl (dq_isa tf_174_0 wa_15_380) (Nat.le_trans (by decide) hF) (ml_le wm_380 (Nat.le_trans (by decide) hLo)) rfl (sp_380 hw (Nat.le_trans (by decide : 2 ≤ 8 - 1) (Nat.sub_le_sub_right hF 1)) (ml_sub wm_380 (Nat.le_trans (by decide : 42 ≤ 202 - 21) (Nat.sub_le_sub_right hLo 21))) (wp_bind h) (fun r38 h => rs_back0 ?_))
              refine rs_aldn wi_408_345 l0 ?_
              refine dq_gr wi_408_346 wf_408_182 tf_174_48 ?_
              refine rs_ildn wi_408_349 l1 ?_
              refine rs_pure wi_408_350 rfl ?_
              obtain ⟨g39, h⟩ := wp_gd h
              refine dq_iald wi_408_351 t_210 g39 ?_
              refine rs_pure wi_408_352 rfl ?_
              refine rs_topi (v := 1) (by decide) ?_
              refine rs_pure wi_408_353 rfl ?_
              obtain ⟨g40, h⟩ := wp_gd h
              obtain ⟨c41, e42, h⟩ := wp_lt h
              refine dq_iast wi_408_354 t_210 g40 e42 ?_
              exact rs_vret wi_408_355 wr_408 (hQ c41 h)
            ·
              have h := wp_neg h q
              exact rs_vret wi_408_271 wr_408 (hQ p17 h)
          refine rs_ifeq (tg := 264) wi_408_248 ⟨by decide, by decide⟩ (fun q => ?_) (fun q => ?_)
          ·
            have h := wp_pos h q
            exact hj264 _ h _ l0 l1 l3 l4 l6
          ·
            have h := wp_neg h q
            refine rs_aldn wi_408_251 l0 ?_
            refine rs_pure wi_408_252 rfl ?_
            refine rs_topi (v := 6) (by decide) ?_
            refine rs_aldn wi_408_254 l0 ?_
            refine dq_gr wi_408_255 wf_408_87 tf_174_9 ?_
            refine rs_ild wi_408_258 l4 ?_
            obtain ⟨g43, h⟩ := wp_gd h
            refine dq_iald wi_408_260 t_179 g43 ?_
            refine rs_V wi_408_261 wc_408_432 rfl (dq_isa tf_174_0 wa_15_97) (Nat.le_trans (by decide) hF) (ml_le wm_97 (Nat.le_trans (by decide) hLo)) rfl (sp_97 hw (Nat.le_trans (by decide : 0 ≤ 8 - 1) (Nat.sub_le_sub_right hF 1)) (ml_sub wm_97 (Nat.le_trans (by decide : 0 ≤ 202 - 22) (Nat.sub_le_sub_right hLo 22))) (wp_bind h) (fun r44 h => rs_back0 ?_))
            exact hj264 _ h _ l0 l1 l3 l4 l6
        refine rs_ifne (tg := 246) wi_408_104 ⟨by decide, by decide⟩ (fun q => ?_) (fun q => ?_)
        ·
          have h := wp_neg h q
          exact hj246 _ h _ l0 l1 l3 l4 l5 l6
        ·
          have h := wp_pos h q
          refine rs_aldn wi_408_107 l0 ?_
          refine dq_gr wi_408_108 wf_408_90 tf_174_10 ?_
          refine rs_aldn wi_408_111 l0 ?_
          refine dq_gi wi_408_112 wf_408_471 tf_174_67 ?_
          obtain ⟨g45, h⟩ := wp_gd h
          refine dq_lald wi_408_115 t_180 g45 ?_
          obtain ⟨v47, e48, h⟩ := wp_lt h
          refine rs_topl e48 ?_
          refine dl_lst wi_408_116 rfl (fun lv l6 t46 => ?_)
          have l0 := t46 _ _ (by decide) (by decide) (Or.inl rfl) l0
          have l1 := t46 _ _ (by decide) (by decide) (Or.inl rfl) l1
          have l3 := t46 _ _ (by decide) (by decide) (Or.inl rfl) l3
          have l4 := t46 _ _ (by decide) (by decide) (Or.inl rfl) l4
          have l5 := t46 _ _ (by decide) (by decide) (Or.inl rfl) l5
          refine rs_pure wi_408_118 rfl ?_
          refine rs_topi (v := 0) (by decide) ?_
          refine dl_ist wi_408_119 rfl (fun lv l8 t49 => ?_)
          have l0 := t49 _ _ (by decide) (Or.inl rfl) l0
          have l1 := t49 _ _ (by decide) (Or.inl rfl) l1
          have l3 := t49 _ _ (by decide) (Or.inl rfl) l3
          have l4 := t49 _ _ (by decide) (Or.inl rfl) l4
          have l5 := t49 _ _ (by decide) (Or.inl rfl) l5
          have l6 := t49 _ _ (by decide) (Or.inr (by decide)) l6
          refine whl_ex (A := fun s50 : Int32 × cS => ∀ lv, rx_ld lv 0 = some (.ref 174) → rx_ld lv 1 = some (.int a1) → rx_ld lv 3 = some (.int v6) → rx_ld lv 4 = some (.int v9) → rx_ld lv 5 = some (.int p12) → rx_ld lv 6 = some (.long v47) → rx_ld lv 8 = some (.int s50.1) → rs (rt_P sc fm) 408 F Lo 121 lv [] (hq false s50.2 y w) Q) (B := (fun x59 : cS => ∀ lv, rx_ld lv 0 = some (.ref 174) → rx_ld lv 1 = some (.int a1) → rx_ld lv 3 = some (.int v6) → rx_ld lv 4 = some (.int v9) → rx_ld lv 5 = some (.int p12) → rx_ld lv 6 = some (.long v47) → rs (rt_P sc fm) 408 F Lo 170 lv [] (hq false x59 y w) Q)) ?_ ?_ _ _ (wp_bind h) _ l0 l1 l3 l4 l5 l6 l8
          · intro s50 h lv l0 l1 l3 l4 l5 l6 l8
            refine rs_ild wi_408_121 l8 ?_
            refine rs_aldn wi_408_123 l0 ?_
            refine dq_gr wi_408_124 wf_408_182 tf_174_48 ?_
            refine rs_ildn wi_408_127 l1 ?_
            obtain ⟨g51, h⟩ := wp_gd h
            refine dq_iald wi_408_128 t_210 g51 ?_
            refine rs_icge (tg := 170) wi_408_129 ⟨by decide, by decide⟩ (fun q => ?_) (fun q => ?_)
            ·
              have h := wp_pos h q
              exact h _ l0 l1 l3 l4 l5 l6
            ·
              have h := wp_neg h q
              refine rs_aldn wi_408_132 l0 ?_
              refine dq_gr wi_408_133 wf_408_188 tf_174_50 ?_
              refine rs_pure wi_408_136 rfl ?_
              refine rs_topi (v := 40) (by decide) ?_
              refine rs_ildn wi_408_138 l1 ?_
              refine rs_pure wi_408_139 rfl ?_
              refine rs_ild wi_408_140 l8 ?_
              refine rs_pure wi_408_142 rfl ?_
              obtain ⟨g52, h⟩ := wp_gd h
              refine dq_lald wi_408_143 t_212 g52 ?_
              refine rs_lld wi_408_144 l6 ?_
              refine rs_pure wi_408_146 rfl ?_
              refine wp_jn (B := fun p53 : cS => ∀ lv, rx_ld lv 0 = some (.ref 174) → rx_ld lv 1 = some (.int a1) → rx_ld lv 3 = some (.int v6) → rx_ld lv 4 = some (.int v9) → rx_ld lv 5 = some (.int p12) → rx_ld lv 6 = some (.long v47) → rx_ld lv 8 = some (.int s50.1) → rs (rt_P sc fm) 408 F Lo 164 lv [] (hq false p53 y w) Q) h (fun p53 h lv l0 l1 l3 l4 l5 l6 l8 => ?_) (fun j164 hj164 h => ?_)
              ·
                obtain ⟨v55, e56, h⟩ := wp_lt h
                refine dl_inc wi_408_164 l8 rfl e56 (fun lv l8 t54 => ?_)
                have l0 := t54 _ _ (by decide) (Or.inl rfl) l0
                have l1 := t54 _ _ (by decide) (Or.inl rfl) l1
                have l3 := t54 _ _ (by decide) (Or.inl rfl) l3
                have l4 := t54 _ _ (by decide) (Or.inl rfl) l4
                have l5 := t54 _ _ (by decide) (Or.inl rfl) l5
                have l6 := t54 _ _ (by decide) (Or.inr (by decide)) l6
                refine rs_goto (tg := 121) wi_408_167 ⟨by decide, by decide⟩ ?_
                exact h _ l0 l1 l3 l4 l5 l6 l8
              refine rs_ifne (tg := 164) wi_408_147 ⟨by decide, by decide⟩ (fun q => ?_) (fun q => ?_)
              ·
                have h := wp_neg h q
                exact hj164 _ h _ l0 l1 l3 l4 l5 l6 l8
              ·
                have h := wp_pos h q
                refine rs_aldn wi_408_150 l0 ?_
                refine rs_pure wi_408_151 rfl ?_
                refine rs_topi (v := 3) (by decide) ?_
                refine rs_aldn wi_408_152 l0 ?_
                refine dq_gr wi_408_153 wf_408_87 tf_174_9 ?_
                refine rs_aldn wi_408_156 l0 ?_
                refine dq_gi wi_408_157 wf_408_471 tf_174_67 ?_
                obtain ⟨g57, h⟩ := wp_gd h
                refine dq_iald wi_408_160 t_179 g57 ?_
                refine rs_V wi_408_161 wc_408_432 rfl (dq_isa tf_174_0 wa_15_97) (Nat.le_trans (by decide) hF) (ml_le wm_97 (Nat.le_trans (by decide) hLo)) rfl (sp_97 hw (Nat.le_trans (by decide : 0 ≤ 8 - 1) (Nat.sub_le_sub_right hF 1)) (ml_sub wm_97 (Nat.le_trans (by decide : 0 ≤ 202 - 22) (Nat.sub_le_sub_right hLo 22))) (wp_bind h) (fun r58 h => rs_back0 ?_))
                exact hj164 _ h _ l0 l1 l3 l4 l5 l6 l8
          ·
            intro x59 h lv l0 l1 l3 l4 l5 l6
            refine rs_ild wi_408_170 l5 ?_
            refine wp_jn (B := fun p60 : cS => ∀ lv, rx_ld lv 0 = some (.ref 174) → rx_ld lv 1 = some (.int a1) → rx_ld lv 3 = some (.int v6) → rx_ld lv 4 = some (.int v9) → rx_ld lv 5 = some (.int p12) → rx_ld lv 6 = some (.long v47) → rs (rt_P sc fm) 408 F Lo 190 lv [] (hq false p60 y w) Q) h (fun p60 h lv l0 l1 l3 l4 l5 l6 => ?_) (fun j190 hj190 h => ?_)
            ·
              refine rs_aldn wi_408_190 l0 ?_
              refine rs_pure wi_408_191 rfl ?_
              refine dq_gi wi_408_192 wf_408_471 tf_174_67 ?_
              refine rs_pure wi_408_195 rfl ?_
              refine rs_topi (v := 1) (by decide) ?_
              refine rs_pure wi_408_196 rfl ?_
              obtain ⟨c61, e62, h⟩ := wp_lt h
              refine dq_pi wi_408_197 wp_408_471 tf_174_67 rfl rfl e62 ?_
              refine rs_aldn wi_408_200 l0 ?_
              refine rs_pure wi_408_201 rfl ?_
              refine rs_topi (v := 58) (by decide) ?_
              refine rs_V wi_408_203 wc_408_521 rfl (dq_isa tf_174_0 wa_15_380) (Nat.le_trans (by decide) hF) (ml_le wm_380 (Nat.le_trans (by decide) hLo)) rfl (sp_380 hw (Nat.le_trans (by decide : 2 ≤ 8 - 1) (Nat.sub_le_sub_right hF 1)) (ml_sub wm_380 (Nat.le_trans (by decide : 42 ≤ 202 - 21) (Nat.sub_le_sub_right hLo 21))) (wp_bind h) (fun r63 h => rs_back0 ?_))
              refine rs_aldn wi_408_206 l0 ?_
              refine dq_gi wi_408_207 wf_408_409 tf_174_13 ?_
              refine rs_ifne (tg := 246) wi_408_210 ⟨by decide, by decide⟩ (fun q => ?_) (fun q => ?_)
              ·
                have h := wp_neg h q
                exact hj246 _ h _ l0 l1 l3 l4 l5 l6
              ·
                have h := wp_pos h q
                refine rs_aldn wi_408_213 l0 ?_
                refine dq_gr wi_408_214 wf_408_84 tf_174_8 ?_
                refine rs_aldn wi_408_217 l0 ?_
                refine dq_gi wi_408_218 wf_408_471 tf_174_67 ?_
                obtain ⟨g64, h⟩ := wp_gd h
                refine dq_iald wi_408_221 t_178 g64 ?_
                refine rs_pure wi_408_222 rfl ?_
                refine rs_topi (v := 4) (by decide) ?_
                refine wp_jn (B := fun p65 : Unit => ∀ lv, rx_ld lv 0 = some (.ref 174) → rx_ld lv 1 = some (.int a1) → rx_ld lv 3 = some (.int v6) → rx_ld lv 4 = some (.int v9) → rx_ld lv 5 = some (.int p12) → rx_ld lv 6 = some (.long v47) → rs (rt_P sc fm) 408 F Lo 242 lv [] (hq false r63 y w) Q) h (fun p65 h lv l0 l1 l3 l4 l5 l6 => ?_) (fun j242 hj242 h => ?_)
                ·
                  refine rs_aldn wi_408_242 l0 ?_
                  refine rs_V wi_408_243 wc_408_480 rfl (dq_isa tf_174_0 wa_15_103) (Nat.le_trans (by decide) hF) (ml_le wm_103 (Nat.le_trans (by decide) hLo)) rfl (sp_103 hw (Nat.le_trans (by decide : 1 ≤ 8 - 1) (Nat.sub_le_sub_right hF 1)) (ml_sub wm_103 (Nat.le_trans (by decide : 22 ≤ 202 - 20) (Nat.sub_le_sub_right hLo 20))) (wp_bind h) (fun r66 h => rs_back0 ?_))
                  exact hj246 _ h _ l0 l1 l3 l4 l5 l6
                refine rs_icne (tg := 242) wi_408_223 ⟨by decide, by decide⟩ (fun q => ?_) (fun q => ?_)
                ·
                  have h := wp_neg h q
                  exact hj242 _ h _ l0 l1 l3 l4 l5 l6
                ·
                  have h := wp_pos h q
                  refine rs_aldn wi_408_226 l0 ?_
                  refine dq_gr wi_408_227 wf_408_90 tf_174_10 ?_
                  refine rs_aldn wi_408_230 l0 ?_
                  refine dq_gi wi_408_231 wf_408_471 tf_174_67 ?_
                  obtain ⟨g67, h⟩ := wp_gd h
                  refine dq_lald wi_408_234 t_180 g67 ?_
                  refine rs_ldcl wi_408_235 wk_408_597 ?_
                  refine rs_pure wi_408_238 rfl ?_
                  refine rs_ifge (tg := 246) wi_408_239 ⟨by decide, by decide⟩ (fun q => ?_) (fun q => ?_)
                  ·
                    have h := wp_pos h q
                    exact hj246 _ h _ l0 l1 l3 l4 l5 l6
                  ·
                    have h := wp_neg h q
                    exact hj242 _ h _ l0 l1 l3 l4 l5 l6
            refine rs_ifeq (tg := 190) wi_408_172 ⟨by decide, by decide⟩ (fun q => ?_) (fun q => ?_)
            ·
              have h := wp_pos h q
              exact hj190 _ h _ l0 l1 l3 l4 l5 l6
            ·
              have h := wp_neg h q
              refine rs_aldn wi_408_175 l0 ?_
              refine rs_pure wi_408_176 rfl ?_
              refine rs_topi (v := 6) (by decide) ?_
              refine rs_aldn wi_408_178 l0 ?_
              refine dq_gr wi_408_179 wf_408_87 tf_174_9 ?_
              refine rs_aldn wi_408_182 l0 ?_
              refine dq_gi wi_408_183 wf_408_471 tf_174_67 ?_
              obtain ⟨g68, h⟩ := wp_gd h
              refine dq_iald wi_408_186 t_179 g68 ?_
              refine rs_V wi_408_187 wc_408_432 rfl (dq_isa tf_174_0 wa_15_97) (Nat.le_trans (by decide) hF) (ml_le wm_97 (Nat.le_trans (by decide) hLo)) rfl (sp_97 hw (Nat.le_trans (by decide : 0 ≤ 8 - 1) (Nat.sub_le_sub_right hF 1)) (ml_sub wm_97 (Nat.le_trans (by decide : 0 ≤ 202 - 22) (Nat.sub_le_sub_right hLo 22))) (wp_bind h) (fun r69 h => rs_back0 ?_))
              exact hj190 _ h _ l0 l1 l3 l4 l5 l6
      refine rs_icne (tg := 89) wi_408_82 ⟨by decide, by decide⟩ (fun q => ?_) (fun q => ?_)
      ·
        have h := wp_neg h q
        refine rs_pure wi_408_89 rfl ?_
        refine rs_topi (v := 0) (by decide) ?_
        exact hj90 _ h _ l0 l1 l3 l4
      ·
        have h := wp_pos h q
        refine rs_pure wi_408_85 rfl ?_
        refine rs_topi (v := 1) (by decide) ?_
        refine rs_goto (tg := 90) wi_408_86 ⟨by decide, by decide⟩ ?_
        exact hj90 _ h _ l0 l1 l3 l4
    ·
      have h := wp_pos h q
      refine rs_aldn wi_408_51 l0 ?_
      refine rs_V wi_408_52 wc_408_480 rfl (dq_isa tf_174_0 wa_15_103) (Nat.le_trans (by decide) hF) (ml_le wm_103 (Nat.le_trans (by decide) hLo)) rfl (sp_103 hw (Nat.le_trans (by decide : 1 ≤ 8 - 1) (Nat.sub_le_sub_right hF 1)) (ml_sub wm_103 (Nat.le_trans (by decide : 22 ≤ 202 - 20) (Nat.sub_le_sub_right hLo 20))) (wp_bind h) (fun r70 h => rs_back0 ?_))
      exact rs_vret wi_408_55 wr_408 (hQ r70 h)
  refine wp_jn (B := fun p71 : Unit => ∀ lv, rx_ld lv 0 = some (.ref 174) → rx_ld lv 1 = some (.int a1) → rs (rt_P sc fm) 408 F Lo 41 lv [] (hq false c y w) Q) h (fun p71 h lv l0 l1 => ?_) (fun j41 hj41 h => ?_)
  ·
    refine rs_pure wi_408_41 rfl ?_
    refine rs_topi (v := 1) (by decide) ?_
    refine rs_goto (tg := 46) wi_408_42 ⟨by decide, by decide⟩ ?_
    exact hj46 _ h _ l0 l1
  refine rs_ifeq (tg := 41) wi_408_9 ⟨by decide, by decide⟩ (fun q => ?_) (fun q => ?_)
  ·
    have h := wp_pos h q
    exact hj41 _ h _ l0 l1
  ·
    have h := wp_neg h q
    refine rs_aldn wi_408_12 l0 ?_
    refine dq_gr wi_408_13 wf_408_84 tf_174_8 ?_
    refine rs_aldn wi_408_16 l0 ?_
    refine dq_gi wi_408_17 wf_408_471 tf_174_67 ?_
    obtain ⟨g72, h⟩ := wp_gd h
    refine dq_iald wi_408_20 t_178 g72 ?_
    refine rs_pure wi_408_21 rfl ?_
    refine rs_topi (v := 4) (by decide) ?_
    refine wp_jn (B := fun p73 : Unit => ∀ lv, rx_ld lv 0 = some (.ref 174) → rx_ld lv 1 = some (.int a1) → rs (rt_P sc fm) 408 F Lo 45 lv [] (hq false c y w) Q) h (fun p73 h lv l0 l1 => ?_) (fun j45 hj45 h => ?_)
    ·
      refine rs_pure wi_408_45 rfl ?_
      refine rs_topi (v := 0) (by decide) ?_
      exact hj46 _ h _ l0 l1
    refine rs_icne (tg := 45) wi_408_22 ⟨by decide, by decide⟩ (fun q => ?_) (fun q => ?_)
    ·
      have h := wp_neg h q
      exact hj45 _ h _ l0 l1
    ·
      have h := wp_pos h q
      refine rs_aldn wi_408_25 l0 ?_
      refine dq_gr wi_408_26 wf_408_90 tf_174_10 ?_
      refine rs_aldn wi_408_29 l0 ?_
      refine dq_gi wi_408_30 wf_408_471 tf_174_67 ?_
      obtain ⟨g74, h⟩ := wp_gd h
      refine dq_lald wi_408_33 t_180 g74 ?_
      refine rs_ldcl wi_408_34 wk_408_597 ?_
      refine rs_pure wi_408_37 rfl ?_
      refine rs_iflt (tg := 45) wi_408_38 ⟨by decide, by decide⟩ (fun q => ?_) (fun q => ?_)
      ·
        have h := wp_pos h q
        exact hj45 _ h _ l0 l1
      ·
        have h := wp_neg h q
        exact hj41 _ h _ l0 l1
theorem t_203 : ta false 203 0 12 := ⟨rfl, by decide, by decide⟩
theorem t_206 : ta false 206 1 96 := ⟨rfl, by decide, by decide⟩
theorem tf_174_41 : fo false 174 15 41 (.ref 203) := ⟨_, rfl, rfl, by decide, by decide⟩
theorem tf_174_44 : fo false 174 15 44 (.ref 206) := ⟨_, rfl, rfl, by decide, by decide⟩
theorem wa_15_406 : rz_cn 15 (rx_yn (rt_P sc fm) 406).cls = true := (by decide +kernel : rz_cn 15 (rt_yn 406).cls = true)
theorem wa_15_408 : rz_cn 15 (rx_yn (rt_P sc fm) 408).cls = true := (by decide +kernel : rz_cn 15 (rt_yn 408).cls = true)
theorem wc_405_432 : rx_ct (rt_P sc fm) 405 432 = some (0, 97, 2) := (by decide +kernel : rt_ct 405 432 = some (0, 97, 2))
theorem wc_405_477 : rx_ct (rt_P sc fm) 405 477 = some (0, 101, 1) := (by decide +kernel : rt_ct 405 477 = some (0, 101, 1))
theorem wc_405_483 : rx_ct (rt_P sc fm) 405 483 = some (0, 379, 1) := (by decide +kernel : rt_ct 405 483 = some (0, 379, 1))
theorem wc_405_505 : rx_ct (rt_P sc fm) 405 505 = some (0, 381, 0) := (by decide +kernel : rt_ct 405 505 = some (0, 381, 0))
theorem wc_405_521 : rx_ct (rt_P sc fm) 405 521 = some (0, 380, 1) := (by decide +kernel : rt_ct 405 521 = some (0, 380, 1))
theorem wc_405_581 : rx_ct (rt_P sc fm) 405 581 = some (0, 396, 4) := (by decide +kernel : rt_ct 405 581 = some (0, 396, 4))
theorem wc_405_591 : rx_ct (rt_P sc fm) 405 591 = some (0, 406, 2) := (by decide +kernel : rt_ct 405 591 = some (0, 406, 2))
theorem wc_405_594 : rx_ct (rt_P sc fm) 405 594 = some (0, 408, 1) := (by decide +kernel : rt_ct 405 594 = some (0, 408, 1))
theorem wf_405_161 : rx_ft (rt_P sc fm) 405 161 = some (15, 41) := (by decide +kernel : rt_ft 405 161 = some (15, 41))
theorem wf_405_170 : rx_ft (rt_P sc fm) 405 170 = some (15, 44) := (by decide +kernel : rt_ft 405 170 = some (15, 44))
theorem wf_405_173 : rx_ft (rt_P sc fm) 405 173 = some (15, 45) := (by decide +kernel : rt_ft 405 173 = some (15, 45))
theorem wf_405_176 : rx_ft (rt_P sc fm) 405 176 = some (15, 46) := (by decide +kernel : rt_ft 405 176 = some (15, 46))
theorem wf_405_182 : rx_ft (rt_P sc fm) 405 182 = some (15, 48) := (by decide +kernel : rt_ft 405 182 = some (15, 48))
theorem wf_405_409 : rx_ft (rt_P sc fm) 405 409 = some (15, 13) := (by decide +kernel : rt_ft 405 409 = some (15, 13))
theorem wf_405_471 : rx_ft (rt_P sc fm) 405 471 = some (15, 67) := (by decide +kernel : rt_ft 405 471 = some (15, 67))
theorem wf_405_87 : rx_ft (rt_P sc fm) 405 87 = some (15, 9) := (by decide +kernel : rt_ft 405 87 = some (15, 9))
theorem wi_405_0 : ri (rt_P sc fm) 405 0 (.aload_n 0) (1) := ri_of (by decide +kernel) rfl
theorem wi_405_1 : ri (rt_P sc fm) 405 1 (.getfield 471) (4) := ri_of (by decide +kernel) rfl
theorem wi_405_10 : ri (rt_P sc fm) 405 10 (.aload_n 0) (11) := ri_of (by decide +kernel) rfl
theorem wi_405_102 : ri (rt_P sc fm) 405 102 (.return_) (103) := ri_of (by decide +kernel) rfl
theorem wi_405_103 : ri (rt_P sc fm) 405 103 (.bipush 8) (105) := ri_of (by decide +kernel) rfl
theorem wi_405_105 : ri (rt_P sc fm) 405 105 (.iload_n 1) (106) := ri_of (by decide +kernel) rfl
theorem wi_405_106 : ri (rt_P sc fm) 405 106 (.imul) (107) := ri_of (by decide +kernel) rfl
theorem wi_405_107 : ri (rt_P sc fm) 405 107 (.aload_n 0) (108) := ri_of (by decide +kernel) rfl
theorem wi_405_108 : ri (rt_P sc fm) 405 108 (.getfield 161) (111) := ri_of (by decide +kernel) rfl
theorem wi_405_11 : ri (rt_P sc fm) 405 11 (.getfield 409) (14) := ri_of (by decide +kernel) rfl
theorem wi_405_111 : ri (rt_P sc fm) 405 111 (.iload_n 1) (112) := ri_of (by decide +kernel) rfl
theorem wi_405_112 : ri (rt_P sc fm) 405 112 (.iaload) (113) := ri_of (by decide +kernel) rfl
theorem wi_405_113 : ri (rt_P sc fm) 405 113 (.iadd) (114) := ri_of (by decide +kernel) rfl
theorem wi_405_114 : ri (rt_P sc fm) 405 114 (.istore 5) (116) := ri_of (by decide +kernel) rfl
theorem wi_405_116 : ri (rt_P sc fm) 405 116 (.bipush 100) (118) := ri_of (by decide +kernel) rfl
theorem wi_405_118 : ri (rt_P sc fm) 405 118 (.iload_n 1) (119) := ri_of (by decide +kernel) rfl
theorem wi_405_119 : ri (rt_P sc fm) 405 119 (.imul) (120) := ri_of (by decide +kernel) rfl
theorem wi_405_120 : ri (rt_P sc fm) 405 120 (.bipush 20) (122) := ri_of (by decide +kernel) rfl
theorem wi_405_122 : ri (rt_P sc fm) 405 122 (.iadd) (123) := ri_of (by decide +kernel) rfl
theorem wi_405_123 : ri (rt_P sc fm) 405 123 (.bipush 10) (125) := ri_of (by decide +kernel) rfl
theorem wi_405_125 : ri (rt_P sc fm) 405 125 (.aload_n 0) (126) := ri_of (by decide +kernel) rfl
theorem wi_405_126 : ri (rt_P sc fm) 405 126 (.getfield 161) (129) := ri_of (by decide +kernel) rfl
theorem wi_405_129 : ri (rt_P sc fm) 405 129 (.iload_n 1) (130) := ri_of (by decide +kernel) rfl
theorem wi_405_130 : ri (rt_P sc fm) 405 130 (.iaload) (131) := ri_of (by decide +kernel) rfl
theorem wi_405_131 : ri (rt_P sc fm) 405 131 (.imul) (132) := ri_of (by decide +kernel) rfl
theorem wi_405_132 : ri (rt_P sc fm) 405 132 (.iadd) (133) := ri_of (by decide +kernel) rfl
theorem wi_405_133 : ri (rt_P sc fm) 405 133 (.istore 6) (135) := ri_of (by decide +kernel) rfl
theorem wi_405_135 : ri (rt_P sc fm) 405 135 (.aload_n 0) (136) := ri_of (by decide +kernel) rfl
theorem wi_405_136 : ri (rt_P sc fm) 405 136 (.getfield 170) (139) := ri_of (by decide +kernel) rfl
theorem wi_405_139 : ri (rt_P sc fm) 405 139 (.iload 5) (141) := ri_of (by decide +kernel) rfl
theorem wi_405_14 : ri (rt_P sc fm) 405 14 (.ifCond .eq 4) (17) := ri_of (by decide +kernel) rfl
theorem wi_405_141 : ri (rt_P sc fm) 405 141 (.lload_n 3) (142) := ri_of (by decide +kernel) rfl
theorem wi_405_142 : ri (rt_P sc fm) 405 142 (.lastore) (143) := ri_of (by decide +kernel) rfl
theorem wi_405_143 : ri (rt_P sc fm) 405 143 (.aload_n 0) (144) := ri_of (by decide +kernel) rfl
theorem wi_405_144 : ri (rt_P sc fm) 405 144 (.getfield 173) (147) := ri_of (by decide +kernel) rfl
theorem wi_405_147 : ri (rt_P sc fm) 405 147 (.iload 5) (149) := ri_of (by decide +kernel) rfl
theorem wi_405_149 : ri (rt_P sc fm) 405 149 (.iconst 0) (150) := ri_of (by decide +kernel) rfl
theorem wi_405_150 : ri (rt_P sc fm) 405 150 (.iastore) (151) := ri_of (by decide +kernel) rfl
theorem wi_405_151 : ri (rt_P sc fm) 405 151 (.aload_n 0) (152) := ri_of (by decide +kernel) rfl
theorem wi_405_152 : ri (rt_P sc fm) 405 152 (.getfield 176) (155) := ri_of (by decide +kernel) rfl
theorem wi_405_155 : ri (rt_P sc fm) 405 155 (.iload 5) (157) := ri_of (by decide +kernel) rfl
theorem wi_405_157 : ri (rt_P sc fm) 405 157 (.iconst 0) (158) := ri_of (by decide +kernel) rfl
theorem wi_405_158 : ri (rt_P sc fm) 405 158 (.iastore) (159) := ri_of (by decide +kernel) rfl
theorem wi_405_159 : ri (rt_P sc fm) 405 159 (.aload_n 0) (160) := ri_of (by decide +kernel) rfl
theorem wi_405_160 : ri (rt_P sc fm) 405 160 (.getfield 182) (163) := ri_of (by decide +kernel) rfl
theorem wi_405_163 : ri (rt_P sc fm) 405 163 (.iload 5) (165) := ri_of (by decide +kernel) rfl
theorem wi_405_165 : ri (rt_P sc fm) 405 165 (.iconst 0) (166) := ri_of (by decide +kernel) rfl
theorem wi_405_166 : ri (rt_P sc fm) 405 166 (.iastore) (167) := ri_of (by decide +kernel) rfl
theorem wi_405_167 : ri (rt_P sc fm) 405 167 (.aload_n 0) (168) := ri_of (by decide +kernel) rfl
theorem wi_405_168 : ri (rt_P sc fm) 405 168 (.bipush 41) (170) := ri_of (by decide +kernel) rfl
theorem wi_405_17 : ri (rt_P sc fm) 405 17 (.return_) (18) := ri_of (by decide +kernel) rfl
theorem wi_405_170 : ri (rt_P sc fm) 405 170 (.invokevirtual 477) (173) := ri_of (by decide +kernel) rfl
theorem wi_405_173 : ri (rt_P sc fm) 405 173 (.ifCond .ne 37) (176) := ri_of (by decide +kernel) rfl
theorem wi_405_176 : ri (rt_P sc fm) 405 176 (.iconst 1) (177) := ri_of (by decide +kernel) rfl
theorem wi_405_177 : ri (rt_P sc fm) 405 177 (.istore 7) (179) := ri_of (by decide +kernel) rfl
theorem wi_405_179 : ri (rt_P sc fm) 405 179 (.iload 7) (181) := ri_of (by decide +kernel) rfl
theorem wi_405_18 : ri (rt_P sc fm) 405 18 (.iconst 0) (19) := ri_of (by decide +kernel) rfl
theorem wi_405_181 : ri (rt_P sc fm) 405 181 (.ifCond .eq 29) (184) := ri_of (by decide +kernel) rfl
theorem wi_405_184 : ri (rt_P sc fm) 405 184 (.aload_n 0) (185) := ri_of (by decide +kernel) rfl
theorem wi_405_185 : ri (rt_P sc fm) 405 185 (.getfield 409) (188) := ri_of (by decide +kernel) rfl
theorem wi_405_188 : ri (rt_P sc fm) 405 188 (.ifCond .ne 22) (191) := ri_of (by decide +kernel) rfl
theorem wi_405_19 : ri (rt_P sc fm) 405 19 (.istore 5) (21) := ri_of (by decide +kernel) rfl
theorem wi_405_191 : ri (rt_P sc fm) 405 191 (.aload_n 0) (192) := ri_of (by decide +kernel) rfl
theorem wi_405_192 : ri (rt_P sc fm) 405 192 (.iload 5) (194) := ri_of (by decide +kernel) rfl
theorem wi_405_194 : ri (rt_P sc fm) 405 194 (.iload 6) (196) := ri_of (by decide +kernel) rfl
theorem wi_405_196 : ri (rt_P sc fm) 405 196 (.invokevirtual 591) (199) := ri_of (by decide +kernel) rfl
theorem wi_405_199 : ri (rt_P sc fm) 405 199 (.aload_n 0) (200) := ri_of (by decide +kernel) rfl
theorem wi_405_200 : ri (rt_P sc fm) 405 200 (.bipush 44) (202) := ri_of (by decide +kernel) rfl
theorem wi_405_202 : ri (rt_P sc fm) 405 202 (.invokevirtual 483) (205) := ri_of (by decide +kernel) rfl
theorem wi_405_205 : ri (rt_P sc fm) 405 205 (.istore 7) (207) := ri_of (by decide +kernel) rfl
theorem wi_405_207 : ri (rt_P sc fm) 405 207 (.goto (-28)) (210) := ri_of (by decide +kernel) rfl
theorem wi_405_21 : ri (rt_P sc fm) 405 21 (.iload 5) (23) := ri_of (by decide +kernel) rfl
theorem wi_405_210 : ri (rt_P sc fm) 405 210 (.aload_n 0) (211) := ri_of (by decide +kernel) rfl
theorem wi_405_211 : ri (rt_P sc fm) 405 211 (.bipush 41) (213) := ri_of (by decide +kernel) rfl
theorem wi_405_213 : ri (rt_P sc fm) 405 213 (.invokevirtual 521) (216) := ri_of (by decide +kernel) rfl
theorem wi_405_216 : ri (rt_P sc fm) 405 216 (.aload_n 0) (217) := ri_of (by decide +kernel) rfl
theorem wi_405_217 : ri (rt_P sc fm) 405 217 (.getfield 409) (220) := ri_of (by decide +kernel) rfl
theorem wi_405_220 : ri (rt_P sc fm) 405 220 (.ifCond .eq 4) (223) := ri_of (by decide +kernel) rfl
theorem wi_405_223 : ri (rt_P sc fm) 405 223 (.return_) (224) := ri_of (by decide +kernel) rfl
theorem wi_405_224 : ri (rt_P sc fm) 405 224 (.aload_n 0) (225) := ri_of (by decide +kernel) rfl
theorem wi_405_225 : ri (rt_P sc fm) 405 225 (.iload 6) (227) := ri_of (by decide +kernel) rfl
theorem wi_405_227 : ri (rt_P sc fm) 405 227 (.iconst 4) (228) := ri_of (by decide +kernel) rfl
theorem wi_405_228 : ri (rt_P sc fm) 405 228 (.iconst 1) (229) := ri_of (by decide +kernel) rfl
theorem wi_405_229 : ri (rt_P sc fm) 405 229 (.iconst 0) (230) := ri_of (by decide +kernel) rfl
theorem wi_405_23 : ri (rt_P sc fm) 405 23 (.aload_n 0) (24) := ri_of (by decide +kernel) rfl
theorem wi_405_230 : ri (rt_P sc fm) 405 230 (.invokevirtual 581) (233) := ri_of (by decide +kernel) rfl
theorem wi_405_233 : ri (rt_P sc fm) 405 233 (.aload_n 0) (234) := ri_of (by decide +kernel) rfl
theorem wi_405_234 : ri (rt_P sc fm) 405 234 (.bipush 123) (236) := ri_of (by decide +kernel) rfl
theorem wi_405_236 : ri (rt_P sc fm) 405 236 (.invokevirtual 521) (239) := ri_of (by decide +kernel) rfl
theorem wi_405_239 : ri (rt_P sc fm) 405 239 (.aload_n 0) (240) := ri_of (by decide +kernel) rfl
theorem wi_405_24 : ri (rt_P sc fm) 405 24 (.getfield 161) (27) := ri_of (by decide +kernel) rfl
theorem wi_405_240 : ri (rt_P sc fm) 405 240 (.getfield 161) (243) := ri_of (by decide +kernel) rfl
theorem wi_405_243 : ri (rt_P sc fm) 405 243 (.iload_n 1) (244) := ri_of (by decide +kernel) rfl
theorem wi_405_244 : ri (rt_P sc fm) 405 244 (.dup2) (245) := ri_of (by decide +kernel) rfl
theorem wi_405_245 : ri (rt_P sc fm) 405 245 (.iaload) (246) := ri_of (by decide +kernel) rfl
theorem wi_405_246 : ri (rt_P sc fm) 405 246 (.iconst 1) (247) := ri_of (by decide +kernel) rfl
theorem wi_405_247 : ri (rt_P sc fm) 405 247 (.iadd) (248) := ri_of (by decide +kernel) rfl
theorem wi_405_248 : ri (rt_P sc fm) 405 248 (.iastore) (249) := ri_of (by decide +kernel) rfl
theorem wi_405_249 : ri (rt_P sc fm) 405 249 (.iconst 1) (250) := ri_of (by decide +kernel) rfl
theorem wi_405_250 : ri (rt_P sc fm) 405 250 (.istore 7) (252) := ri_of (by decide +kernel) rfl
theorem wi_405_252 : ri (rt_P sc fm) 405 252 (.iload 7) (254) := ri_of (by decide +kernel) rfl
theorem wi_405_254 : ri (rt_P sc fm) 405 254 (.ifCond .eq 42) (257) := ri_of (by decide +kernel) rfl
theorem wi_405_257 : ri (rt_P sc fm) 405 257 (.aload_n 0) (258) := ri_of (by decide +kernel) rfl
theorem wi_405_258 : ri (rt_P sc fm) 405 258 (.getfield 409) (261) := ri_of (by decide +kernel) rfl
theorem wi_405_261 : ri (rt_P sc fm) 405 261 (.ifCond .ne 35) (264) := ri_of (by decide +kernel) rfl
theorem wi_405_264 : ri (rt_P sc fm) 405 264 (.aload_n 0) (265) := ri_of (by decide +kernel) rfl
theorem wi_405_265 : ri (rt_P sc fm) 405 265 (.iload 5) (267) := ri_of (by decide +kernel) rfl
theorem wi_405_267 : ri (rt_P sc fm) 405 267 (.invokevirtual 594) (270) := ri_of (by decide +kernel) rfl
theorem wi_405_27 : ri (rt_P sc fm) 405 27 (.iload_n 1) (28) := ri_of (by decide +kernel) rfl
theorem wi_405_270 : ri (rt_P sc fm) 405 270 (.aload_n 0) (271) := ri_of (by decide +kernel) rfl
theorem wi_405_271 : ri (rt_P sc fm) 405 271 (.getfield 409) (274) := ri_of (by decide +kernel) rfl
theorem wi_405_274 : ri (rt_P sc fm) 405 274 (.ifCond .ne 16) (277) := ri_of (by decide +kernel) rfl
theorem wi_405_277 : ri (rt_P sc fm) 405 277 (.aload_n 0) (278) := ri_of (by decide +kernel) rfl
theorem wi_405_278 : ri (rt_P sc fm) 405 278 (.bipush 125) (280) := ri_of (by decide +kernel) rfl
theorem wi_405_28 : ri (rt_P sc fm) 405 28 (.iaload) (29) := ri_of (by decide +kernel) rfl
theorem wi_405_280 : ri (rt_P sc fm) 405 280 (.invokevirtual 483) (283) := ri_of (by decide +kernel) rfl
theorem wi_405_283 : ri (rt_P sc fm) 405 283 (.ifCond .ne 7) (286) := ri_of (by decide +kernel) rfl
theorem wi_405_286 : ri (rt_P sc fm) 405 286 (.iconst 1) (287) := ri_of (by decide +kernel) rfl
theorem wi_405_287 : ri (rt_P sc fm) 405 287 (.goto 4) (290) := ri_of (by decide +kernel) rfl
theorem wi_405_29 : ri (rt_P sc fm) 405 29 (.if_icmp .ge 37) (32) := ri_of (by decide +kernel) rfl
theorem wi_405_290 : ri (rt_P sc fm) 405 290 (.iconst 0) (291) := ri_of (by decide +kernel) rfl
theorem wi_405_291 : ri (rt_P sc fm) 405 291 (.istore 7) (293) := ri_of (by decide +kernel) rfl
theorem wi_405_293 : ri (rt_P sc fm) 405 293 (.goto (-41)) (296) := ri_of (by decide +kernel) rfl
theorem wi_405_296 : ri (rt_P sc fm) 405 296 (.return_) (297) := ri_of (by decide +kernel) rfl
theorem wi_405_32 : ri (rt_P sc fm) 405 32 (.aload_n 0) (33) := ri_of (by decide +kernel) rfl
theorem wi_405_33 : ri (rt_P sc fm) 405 33 (.getfield 170) (36) := ri_of (by decide +kernel) rfl
theorem wi_405_36 : ri (rt_P sc fm) 405 36 (.bipush 8) (38) := ri_of (by decide +kernel) rfl
theorem wi_405_38 : ri (rt_P sc fm) 405 38 (.iload_n 1) (39) := ri_of (by decide +kernel) rfl
theorem wi_405_39 : ri (rt_P sc fm) 405 39 (.imul) (40) := ri_of (by decide +kernel) rfl
theorem wi_405_4 : ri (rt_P sc fm) 405 4 (.istore_n 2) (5) := ri_of (by decide +kernel) rfl
theorem wi_405_40 : ri (rt_P sc fm) 405 40 (.iload 5) (42) := ri_of (by decide +kernel) rfl
theorem wi_405_42 : ri (rt_P sc fm) 405 42 (.iadd) (43) := ri_of (by decide +kernel) rfl
theorem wi_405_43 : ri (rt_P sc fm) 405 43 (.laload) (44) := ri_of (by decide +kernel) rfl
theorem wi_405_44 : ri (rt_P sc fm) 405 44 (.lload_n 3) (45) := ri_of (by decide +kernel) rfl
theorem wi_405_45 : ri (rt_P sc fm) 405 45 (.lcmp) (46) := ri_of (by decide +kernel) rfl
theorem wi_405_46 : ri (rt_P sc fm) 405 46 (.ifCond .ne 14) (49) := ri_of (by decide +kernel) rfl
theorem wi_405_49 : ri (rt_P sc fm) 405 49 (.aload_n 0) (50) := ri_of (by decide +kernel) rfl
theorem wi_405_5 : ri (rt_P sc fm) 405 5 (.aload_n 0) (6) := ri_of (by decide +kernel) rfl
theorem wi_405_50 : ri (rt_P sc fm) 405 50 (.iconst 3) (51) := ri_of (by decide +kernel) rfl
theorem wi_405_51 : ri (rt_P sc fm) 405 51 (.aload_n 0) (52) := ri_of (by decide +kernel) rfl
theorem wi_405_52 : ri (rt_P sc fm) 405 52 (.getfield 87) (55) := ri_of (by decide +kernel) rfl
theorem wi_405_55 : ri (rt_P sc fm) 405 55 (.iload_n 2) (56) := ri_of (by decide +kernel) rfl
theorem wi_405_56 : ri (rt_P sc fm) 405 56 (.iaload) (57) := ri_of (by decide +kernel) rfl
theorem wi_405_57 : ri (rt_P sc fm) 405 57 (.invokevirtual 432) (60) := ri_of (by decide +kernel) rfl
theorem wi_405_6 : ri (rt_P sc fm) 405 6 (.invokevirtual 505) (9) := ri_of (by decide +kernel) rfl
theorem wi_405_60 : ri (rt_P sc fm) 405 60 (.iinc 5 1) (63) := ri_of (by decide +kernel) rfl
theorem wi_405_63 : ri (rt_P sc fm) 405 63 (.goto (-42)) (66) := ri_of (by decide +kernel) rfl
theorem wi_405_66 : ri (rt_P sc fm) 405 66 (.aload_n 0) (67) := ri_of (by decide +kernel) rfl
theorem wi_405_67 : ri (rt_P sc fm) 405 67 (.getfield 161) (70) := ri_of (by decide +kernel) rfl
theorem wi_405_70 : ri (rt_P sc fm) 405 70 (.iload_n 1) (71) := ri_of (by decide +kernel) rfl
theorem wi_405_71 : ri (rt_P sc fm) 405 71 (.iaload) (72) := ri_of (by decide +kernel) rfl
theorem wi_405_72 : ri (rt_P sc fm) 405 72 (.bipush 8) (74) := ri_of (by decide +kernel) rfl
theorem wi_405_74 : ri (rt_P sc fm) 405 74 (.if_icmp .ne 15) (77) := ri_of (by decide +kernel) rfl
theorem wi_405_77 : ri (rt_P sc fm) 405 77 (.aload_n 0) (78) := ri_of (by decide +kernel) rfl
theorem wi_405_78 : ri (rt_P sc fm) 405 78 (.bipush 6) (80) := ri_of (by decide +kernel) rfl
theorem wi_405_80 : ri (rt_P sc fm) 405 80 (.aload_n 0) (81) := ri_of (by decide +kernel) rfl
theorem wi_405_81 : ri (rt_P sc fm) 405 81 (.getfield 87) (84) := ri_of (by decide +kernel) rfl
theorem wi_405_84 : ri (rt_P sc fm) 405 84 (.iload_n 2) (85) := ri_of (by decide +kernel) rfl
theorem wi_405_85 : ri (rt_P sc fm) 405 85 (.iaload) (86) := ri_of (by decide +kernel) rfl
theorem wi_405_86 : ri (rt_P sc fm) 405 86 (.invokevirtual 432) (89) := ri_of (by decide +kernel) rfl
theorem wi_405_89 : ri (rt_P sc fm) 405 89 (.aload_n 0) (90) := ri_of (by decide +kernel) rfl
theorem wi_405_9 : ri (rt_P sc fm) 405 9 (.lstore_n 3) (10) := ri_of (by decide +kernel) rfl
theorem wi_405_90 : ri (rt_P sc fm) 405 90 (.bipush 40) (92) := ri_of (by decide +kernel) rfl
theorem wi_405_92 : ri (rt_P sc fm) 405 92 (.invokevirtual 521) (95) := ri_of (by decide +kernel) rfl
theorem wi_405_95 : ri (rt_P sc fm) 405 95 (.aload_n 0) (96) := ri_of (by decide +kernel) rfl
theorem wi_405_96 : ri (rt_P sc fm) 405 96 (.getfield 409) (99) := ri_of (by decide +kernel) rfl
theorem wi_405_99 : ri (rt_P sc fm) 405 99 (.ifCond .eq 4) (102) := ri_of (by decide +kernel) rfl
theorem wm_406 : rx_ml (rt_P sc fm) 406 = 7 := (by decide +kernel : rt_ml 406 = 7)
theorem wm_408 : rx_ml (rt_P sc fm) 408 = 9 := (by decide +kernel : rt_ml 408 = 9)
theorem wr_405 : rx_rt (rt_P sc fm) 405 = none := (by decide +kernel : rt_rt 405 = none)
/-- MarkHouseModel.readMethod(I)V -/
def d_405 (n : Nat) (a1 : Int32) (c : cS) : Option (cS) :=
  lt ((c.1 174 67) : Int32) (fun v2 =>
  Option.bind (d_381 n c) (fun r4 =>
  if (r4.2.1 174 13) = 0 then
    Option.bind (whl (R := (cS)) (fun s7 : Int32 × cS =>
      if ib a1 12 then
      if (s7.2.1 203 (ix a1)) ≤ s7.1 then
        some (.inr s7.2)
      else
        if ib ((8 * a1) + s7.1) 96 then
        jn (fun p10 : cS =>
          lt (s7.1 + 1 : Int32) (fun v12 =>
          some (.inl (v12, p10))))
        (fun j60 =>
        if (lg_cmp (s7.2.2 206 (ix ((8 * a1) + s7.1))) r4.1) = 0 then
          if ib v2 4001 then
          Option.bind (d_97 n 3 (s7.2.1 179 (ix v2)) s7.2) (fun r15 =>
          j60 r15)
          else none
        else
          j60 s7.2)
        else none
      else none) n (0, r4.2))
    (fun x16 : cS =>
      if ib a1 12 then
      jn (fun p18 : cS =>
        Option.bind (d_380 n 40 p18) (fun r19 =>
        if (r19.1 174 13) = 0 then
          if ib a1 12 then
          lt (((8 * a1) + (r19.1 203 (ix a1))) : Int32) (fun v22 =>
          if ib a1 12 then
          lt ((((100 * a1) + 20) + (10 * (r19.1 203 (ix a1)))) : Int32) (fun v26 =>
          if ib v22 96 then
          lt (pL r19 206 (ix v22) r4.1) (fun c29 =>
          if ib v22 96 then
          lt (pI c29 207 (ix v22) 0) (fun c32 =>
          if ib v22 96 then
          lt (pI c32 208 (ix v22) 0) (fun c35 =>
          if ib v22 96 then
          lt (pI c35 210 (ix v22) 0) (fun c38 =>
          Option.bind (d_101 n 41 c38) (fun v40 =>
          jn (fun p41 : cS =>
            Option.bind (d_380 n 41 p41) (fun r42 =>
            if (r42.1 174 13) = 0 then
              Option.bind (d_396 n v26 4 1 0 r42) (fun r43 =>
              Option.bind (d_380 n 123 r43) (fun r44 =>
              if ib a1 12 then
              if ib a1 12 then
              lt (pI r44 203 (ix a1) ((r44.1 203 (ix a1)) + 1)) (fun c47 =>
              Option.bind (whl (R := (cS)) (fun s50 : Int32 × cS =>
                if s50.1 = 0 then
                  some (.inr s50.2)
                else
                  if (s50.2.1 174 13) = 0 then
                    Option.bind (d_408 n v22 s50.2) (fun r51 =>
                    jn (fun p52 : Int32 × cS =>
                      some (.inl (p52.1, p52.2)))
                    (fun j291 =>
                    jn (fun p54 : cS =>
                      j291 (0, p54))
                    (fun j290 =>
                    if (r51.1 174 13) = 0 then
                      Option.bind (d_379 n 125 r51) (fun r55 =>
                      if r55.1 = 0 then
                        j291 (1, r55.2)
                      else
                        j290 r55.2)
                    else
                      j290 r51)))
                  else
                    some (.inr s50.2)) n (1, c47))
              (fun x56 : cS =>
                some x56))
              else none
              else none))
            else
              some r42))
          (fun j210 =>
          if v40 = 0 then
            Option.bind (whl (R := (cS)) (fun s58 : Int32 × cS =>
              if s58.1 = 0 then
                some (.inr s58.2)
              else
                if (s58.2.1 174 13) = 0 then
                  Option.bind (d_406 n v22 v26 s58.2) (fun r59 =>
                  Option.bind (d_379 n 44 r59) (fun r60 =>
                  some (.inl (r60.1, r60.2))))
                else
                  some (.inr s58.2)) n (1, c38))
            (fun x62 : cS =>
              j210 x62)
          else
            j210 c38)))
          else none)
          else none)
          else none)
          else none)
          else none)
          else none
        else
          some r19))
      (fun j89 =>
      if (x16.1 203 (ix a1)) = 8 then
        if ib v2 4001 then
        Option.bind (d_97 n 6 (x16.1 179 (ix v2)) x16) (fun r64 =>
        j89 r64)
        else none
      else
        j89 x16)
      else none)
  else
    some r4.2))
set_option maxRecDepth 100000 in
set_option maxHeartbeats 4000000 in
theorem sp_405 {F Lo n : Nat} {a1 : Int32} {c y : cS} {w : cW} {K : cS → Prop} {Q : ((Option Value) ⊕ String) → List va_E → Prop} (hw : rOK fm w) (hF : 9 ≤ F) (hLo : 230 ≤ Lo)  (h : wp (d_405 n a1 c) K) (hQ : ∀ r, K r → Q (.inl none) (hq false r y w)) : rs (rt_P sc fm) 405 F Lo 0 [(0, .ref 174), (1, .int a1)] [] (hq false c y w) Q := by
  unfold d_405 at h
  obtain ⟨lv, elv⟩ : ∃ lv : rx_L, lv = [(0, .ref 174), (1, .int a1)] := ⟨_, rfl⟩
  rw [← elv]
  have l0 : rx_ld lv 0 = some (.ref 174) := by rw [elv]; rfl
  have l1 : rx_ld lv 1 = some (.int a1) := by rw [elv]; rfl
  refine rs_aldn wi_405_0 l0 ?_
  refine dq_gi wi_405_1 wf_405_471 tf_174_67 ?_
  obtain ⟨v2, e3, h⟩ := wp_lt h
  refine rs_topi e3 ?_
  refine dl_istn wi_405_4 rfl (fun lv l2 t1 => ?_)
  have l0 := t1 _ _ (by decide) (Or.inl rfl) l0
  have l1 := t1 _ _ (by decide) (Or.inl rfl) l1
  refine rs_aldn wi_405_5 l0 ?_
  refine rs_V wi_405_6 wc_405_505 rfl (dq_isa tf_174_0 wa_15_381) (Nat.le_trans (by decide) hF) (ml_le wm_381 (Nat.le_trans (by decide) hLo)) rfl (sp_381 hw (Nat.le_trans (by decide : 2 ≤ 9 - 1) (Nat.sub_le_sub_right hF 1)) (ml_sub wm_381 (Nat.le_trans (by decide : 42 ≤ 230 - 20) (Nat.sub_le_sub_right hLo 20))) (wp_bind h) (fun r4 h => rs_back1 ?_))
  refine dl_lstn wi_405_9 rfl (fun lv l3 t5 => ?_)
  have l0 := t5 _ _ (by decide) (by decide) (Or.inl rfl) l0
  have l1 := t5 _ _ (by decide) (by decide) (Or.inl rfl) l1
  have l2 := t5 _ _ (by decide) (by decide) (Or.inl rfl) l2
  refine rs_aldn wi_405_10 l0 ?_
  refine dq_gi wi_405_11 wf_405_409 tf_174_13 ?_
  refine rs_ifeq (tg := 18) wi_405_14 ⟨by decide, by decide⟩ (fun q => ?_) (fun q => ?_)
  ·
    have h := wp_pos h q
    refine rs_pure wi_405_18 rfl ?_
    refine rs_topi (v := 0) (by decide) ?_
    refine dl_ist wi_405_19 rfl (fun lv l5 t6 => ?_)
    have l0 := t6 _ _ (by decide) (Or.inl rfl) l0
    have l1 := t6 _ _ (by decide) (Or.inl rfl) l1
    have l2 := t6 _ _ (by decide) (Or.inl rfl) l2
    have l3 := t6 _ _ (by decide) (Or.inr (by decide)) l3
    refine whl_ex (A := fun s7 : Int32 × cS => ∀ lv, rx_ld lv 0 = some (.ref 174) → rx_ld lv 1 = some (.int a1) → rx_ld lv 2 = some (.int v2) → rx_ld lv 3 = some (.long r4.1) → rx_ld lv 5 = some (.int s7.1) → rs (rt_P sc fm) 405 F Lo 21 lv [] (hq false s7.2 y w) Q) (B := (fun x16 : cS => ∀ lv, rx_ld lv 0 = some (.ref 174) → rx_ld lv 1 = some (.int a1) → rx_ld lv 2 = some (.int v2) → rx_ld lv 3 = some (.long r4.1) → rs (rt_P sc fm) 405 F Lo 66 lv [] (hq false x16 y w) Q)) ?_ ?_ _ _ (wp_bind h) _ l0 l1 l2 l3 l5
    · intro s7 h lv l0 l1 l2 l3 l5
      refine rs_ild wi_405_21 l5 ?_
      refine rs_aldn wi_405_23 l0 ?_
      refine dq_gr wi_405_24 wf_405_161 tf_174_41 ?_
      refine rs_ildn wi_405_27 l1 ?_
      obtain ⟨g8, h⟩ := wp_gd h
      refine dq_iald wi_405_28 t_203 g8 ?_
      refine rs_icge (tg := 66) wi_405_29 ⟨by decide, by decide⟩ (fun q => ?_) (fun q => ?_)
      ·
        have h := wp_pos h q
        exact h _ l0 l1 l2 l3
      ·
        have h := wp_neg h q
        refine rs_aldn wi_405_32 l0 ?_
        refine dq_gr wi_405_33 wf_405_170 tf_174_44 ?_
        refine rs_pure wi_405_36 rfl ?_
        refine rs_topi (v := 8) (by decide) ?_
        refine rs_ildn wi_405_38 l1 ?_
        refine rs_pure wi_405_39 rfl ?_
        refine rs_ild wi_405_40 l5 ?_
        refine rs_pure wi_405_42 rfl ?_
        obtain ⟨g9, h⟩ := wp_gd h
        refine dq_lald wi_405_43 t_206 g9 ?_
        refine rs_lldn wi_405_44 l3 ?_
        refine rs_pure wi_405_45 rfl ?_
        refine wp_jn (B := fun p10 : cS => ∀ lv, rx_ld lv 0 = some (.ref 174) → rx_ld lv 1 = some (.int a1) → rx_ld lv 2 = some (.int v2) → rx_ld lv 3 = some (.long r4.1) → rx_ld lv 5 = some (.int s7.1) → rs (rt_P sc fm) 405 F Lo 60 lv [] (hq false p10 y w) Q) h (fun p10 h lv l0 l1 l2 l3 l5 => ?_) (fun j60 hj60 h => ?_)
        ·
          obtain ⟨v12, e13, h⟩ := wp_lt h
          refine dl_inc wi_405_60 l5 rfl e13 (fun lv l5 t11 => ?_)
          have l0 := t11 _ _ (by decide) (Or.inl rfl) l0
          have l1 := t11 _ _ (by decide) (Or.inl rfl) l1
          have l2 := t11 _ _ (by decide) (Or.inl rfl) l2
          have l3 := t11 _ _ (by decide) (Or.inr (by decide)) l3
          refine rs_goto (tg := 21) wi_405_63 ⟨by decide, by decide⟩ ?_
          exact h _ l0 l1 l2 l3 l5
        refine rs_ifne (tg := 60) wi_405_46 ⟨by decide, by decide⟩ (fun q => ?_) (fun q => ?_)
        ·
          have h := wp_neg h q
          exact hj60 _ h _ l0 l1 l2 l3 l5
        ·
          have h := wp_pos h q
          refine rs_aldn wi_405_49 l0 ?_
          refine rs_pure wi_405_50 rfl ?_
          refine rs_topi (v := 3) (by decide) ?_
          refine rs_aldn wi_405_51 l0 ?_
          refine dq_gr wi_405_52 wf_405_87 tf_174_9 ?_
          refine rs_ildn wi_405_55 l2 ?_
          obtain ⟨g14, h⟩ := wp_gd h
          refine dq_iald wi_405_56 t_179 g14 ?_
          refine rs_V wi_405_57 wc_405_432 rfl (dq_isa tf_174_0 wa_15_97) (Nat.le_trans (by decide) hF) (ml_le wm_97 (Nat.le_trans (by decide) hLo)) rfl (sp_97 hw (Nat.le_trans (by decide : 0 ≤ 9 - 1) (Nat.sub_le_sub_right hF 1)) (ml_sub wm_97 (Nat.le_trans (by decide : 0 ≤ 230 - 22) (Nat.sub_le_sub_right hLo 22))) (wp_bind h) (fun r15 h => rs_back0 ?_))
          exact hj60 _ h _ l0 l1 l2 l3 l5
    ·
      intro x16 h lv l0 l1 l2 l3
      refine rs_aldn wi_405_66 l0 ?_
      refine dq_gr wi_405_67 wf_405_161 tf_174_41 ?_
      refine rs_ildn wi_405_70 l1 ?_
      obtain ⟨g17, h⟩ := wp_gd h
      refine dq_iald wi_405_71 t_203 g17 ?_
      refine rs_pure wi_405_72 rfl ?_
      refine rs_topi (v := 8) (by decide) ?_
      refine wp_jn (B := fun p18 : cS => ∀ lv, rx_ld lv 0 = some (.ref 174) → rx_ld lv 1 = some (.int a1) → rx_ld lv 3 = some (.long r4.1) → rs (rt_P sc fm) 405 F Lo 89 lv [] (hq false p18 y w) Q) h (fun p18 h lv l0 l1 l3 => ?_) (fun j89 hj89 h => ?_)
      ·
        refine rs_aldn wi_405_89 l0 ?_
        refine rs_pure wi_405_90 rfl ?_
        refine rs_topi (v := 40) (by decide) ?_
        refine rs_V wi_405_92 wc_405_521 rfl (dq_isa tf_174_0 wa_15_380) (Nat.le_trans (by decide) hF) (ml_le wm_380 (Nat.le_trans (by decide) hLo)) rfl (sp_380 hw (Nat.le_trans (by decide : 2 ≤ 9 - 1) (Nat.sub_le_sub_right hF 1)) (ml_sub wm_380 (Nat.le_trans (by decide : 42 ≤ 230 - 21) (Nat.sub_le_sub_right hLo 21))) (wp_bind h) (fun r19 h => rs_back0 ?_))
        refine rs_aldn wi_405_95 l0 ?_
        refine dq_gi wi_405_96 wf_405_409 tf_174_13 ?_
        refine rs_ifeq (tg := 103) wi_405_99 ⟨by decide, by decide⟩ (fun q => ?_) (fun q => ?_)
        ·
          have h := wp_pos h q
          refine rs_pure wi_405_103 rfl ?_
          refine rs_topi (v := 8) (by decide) ?_
          refine rs_ildn wi_405_105 l1 ?_
          refine rs_pure wi_405_106 rfl ?_
          refine rs_aldn wi_405_107 l0 ?_
          refine dq_gr wi_405_108 wf_405_161 tf_174_41 ?_
          refine rs_ildn wi_405_111 l1 ?_
          obtain ⟨g20, h⟩ := wp_gd h
          refine dq_iald wi_405_112 t_203 g20 ?_
          refine rs_pure wi_405_113 rfl ?_
          obtain ⟨v22, e23, h⟩ := wp_lt h
          refine rs_topi e23 ?_
          refine dl_ist wi_405_114 rfl (fun lv l5 t21 => ?_)
          have l0 := t21 _ _ (by decide) (Or.inl rfl) l0
          have l1 := t21 _ _ (by decide) (Or.inl rfl) l1
          have l3 := t21 _ _ (by decide) (Or.inr (by decide)) l3
          refine rs_pure wi_405_116 rfl ?_
          refine rs_topi (v := 100) (by decide) ?_
          refine rs_ildn wi_405_118 l1 ?_
          refine rs_pure wi_405_119 rfl ?_
          refine rs_pure wi_405_120 rfl ?_
          refine rs_topi (v := 20) (by decide) ?_
          refine rs_pure wi_405_122 rfl ?_
          refine rs_pure wi_405_123 rfl ?_
          refine rs_topi (v := 10) (by decide) ?_
          refine rs_aldn wi_405_125 l0 ?_
          refine dq_gr wi_405_126 wf_405_161 tf_174_41 ?_
          refine rs_ildn wi_405_129 l1 ?_
          obtain ⟨g24, h⟩ := wp_gd h
          refine dq_iald wi_405_130 t_203 g24 ?_
          refine rs_pure wi_405_131 rfl ?_
          refine rs_pure wi_405_132 rfl ?_
          obtain ⟨v26, e27, h⟩ := wp_lt h
          refine rs_topi e27 ?_
          refine dl_ist wi_405_133 rfl (fun lv l6 t25 => ?_)
          have l0 := t25 _ _ (by decide) (Or.inl rfl) l0
          have l1 := t25 _ _ (by decide) (Or.inl rfl) l1
          have l3 := t25 _ _ (by decide) (Or.inr (by decide)) l3
          have l5 := t25 _ _ (by decide) (Or.inl rfl) l5
          refine rs_aldn wi_405_135 l0 ?_
          refine dq_gr wi_405_136 wf_405_170 tf_174_44 ?_
          refine rs_ild wi_405_139 l5 ?_
          refine rs_lldn wi_405_141 l3 ?_
          obtain ⟨g28, h⟩ := wp_gd h
          obtain ⟨c29, e30, h⟩ := wp_lt h
          refine dq_last wi_405_142 t_206 g28 e30 ?_
          refine rs_aldn wi_405_143 l0 ?_
          refine dq_gr wi_405_144 wf_405_173 tf_174_45 ?_
          refine rs_ild wi_405_147 l5 ?_
          refine rs_pure wi_405_149 rfl ?_
          refine rs_topi (v := 0) (by decide) ?_
          obtain ⟨g31, h⟩ := wp_gd h
          obtain ⟨c32, e33, h⟩ := wp_lt h
          refine dq_iast wi_405_150 t_207 g31 e33 ?_
          refine rs_aldn wi_405_151 l0 ?_
          refine dq_gr wi_405_152 wf_405_176 tf_174_46 ?_
          refine rs_ild wi_405_155 l5 ?_
          refine rs_pure wi_405_157 rfl ?_
          refine rs_topi (v := 0) (by decide) ?_
          obtain ⟨g34, h⟩ := wp_gd h
          obtain ⟨c35, e36, h⟩ := wp_lt h
          refine dq_iast wi_405_158 t_208 g34 e36 ?_
          refine rs_aldn wi_405_159 l0 ?_
          refine dq_gr wi_405_160 wf_405_182 tf_174_48 ?_
          refine rs_ild wi_405_163 l5 ?_
          refine rs_pure wi_405_165 rfl ?_
          refine rs_topi (v := 0) (by decide) ?_
          obtain ⟨g37, h⟩ := wp_gd h
          obtain ⟨c38, e39, h⟩ := wp_lt h
          refine dq_iast wi_405_166 t_210 g37 e39 ?_
          refine rs_aldn wi_405_167 l0 ?_
          refine rs_pure wi_405_168 rfl ?_
          refine rs_topi (v := 41) (by decide) ?_
          refine rs_V wi_405_170 wc_405_477 rfl (dq_isa tf_174_0 wa_15_101) (Nat.le_trans (by decide) hF) (ml_le wm_101 (Nat.le_trans (by decide) hLo)) rfl (sp_101 hw (Nat.le_trans (by decide : 0 ≤ 9 - 1) (Nat.sub_le_sub_right hF 1)) (ml_sub wm_101 (Nat.le_trans (by decide : 0 ≤ 230 - 21) (Nat.sub_le_sub_right hLo 21))) (wp_bind h) (fun v40 h => rs_back1 ?_))
          refine wp_jn (B := fun p41 : cS => ∀ lv, rx_ld lv 0 = some (.ref 174) → rx_ld lv 1 = some (.int a1) → rx_ld lv 5 = some (.int v22) → rx_ld lv 6 = some (.int v26) → rs (rt_P sc fm) 405 F Lo 210 lv [] (hq false p41 y w) Q) h (fun p41 h lv l0 l1 l5 l6 => ?_) (fun j210 hj210 h => ?_)
          ·
            refine rs_aldn wi_405_210 l0 ?_
            refine rs_pure wi_405_211 rfl ?_
            refine rs_topi (v := 41) (by decide) ?_
            refine rs_V wi_405_213 wc_405_521 rfl (dq_isa tf_174_0 wa_15_380) (Nat.le_trans (by decide) hF) (ml_le wm_380 (Nat.le_trans (by decide) hLo)) rfl (sp_380 hw (Nat.le_trans (by decide : 2 ≤ 9 - 1) (Nat.sub_le_sub_right hF 1)) (ml_sub wm_380 (Nat.le_trans (by decide : 42 ≤ 230 - 21) (Nat.sub_le_sub_right hLo 21))) (wp_bind h) (fun r42 h => rs_back0 ?_))
            refine rs_aldn wi_405_216 l0 ?_
            refine dq_gi wi_405_217 wf_405_409 tf_174_13 ?_
            refine rs_ifeq (tg := 224) wi_405_220 ⟨by decide, by decide⟩ (fun q => ?_) (fun q => ?_)
            ·
              have h := wp_pos h q
              refine rs_aldn wi_405_224 l0 ?_
              refine rs_ild wi_405_225 l6 ?_
              refine rs_pure wi_405_227 rfl ?_
              refine rs_topi (v := 4) (by decide) ?_
              refine rs_pure wi_405_228 rfl ?_
              refine rs_topi (v := 1) (by decide) ?_
              refine rs_pure wi_405_229 rfl ?_
              refine rs_topi (v := 0) (by decide) ?_
              refine rs_V wi_405_230 wc_405_581 rfl (dq_isa tf_174_0 wa_15_396) (Nat.le_trans (by decide) hF) (ml_le wm_396 (Nat.le_trans (by decide) hLo)) rfl (sp_396 hw (Nat.le_trans (by decide : 5 ≤ 9 - 1) (Nat.sub_le_sub_right hF 1)) (ml_sub wm_396 (Nat.le_trans (by decide : 130 ≤ 230 - 24) (Nat.sub_le_sub_right hLo 24))) (wp_bind h) (fun r43 h => rs_back0 ?_))
              refine rs_aldn wi_405_233 l0 ?_
              refine rs_pure wi_405_234 rfl ?_
              refine rs_topi (v := 123) (by decide) ?_
              refine rs_V wi_405_236 wc_405_521 rfl (dq_isa tf_174_0 wa_15_380) (Nat.le_trans (by decide) hF) (ml_le wm_380 (Nat.le_trans (by decide) hLo)) rfl (sp_380 hw (Nat.le_trans (by decide : 2 ≤ 9 - 1) (Nat.sub_le_sub_right hF 1)) (ml_sub wm_380 (Nat.le_trans (by decide : 42 ≤ 230 - 21) (Nat.sub_le_sub_right hLo 21))) (wp_bind h) (fun r44 h => rs_back0 ?_))
              refine rs_aldn wi_405_239 l0 ?_
              refine dq_gr wi_405_240 wf_405_161 tf_174_41 ?_
              refine rs_ildn wi_405_243 l1 ?_
              refine rs_pure wi_405_244 rfl ?_
              obtain ⟨g45, h⟩ := wp_gd h
              refine dq_iald wi_405_245 t_203 g45 ?_
              refine rs_pure wi_405_246 rfl ?_
              refine rs_topi (v := 1) (by decide) ?_
              refine rs_pure wi_405_247 rfl ?_
              obtain ⟨g46, h⟩ := wp_gd h
              obtain ⟨c47, e48, h⟩ := wp_lt h
              refine dq_iast wi_405_248 t_203 g46 e48 ?_
              refine rs_pure wi_405_249 rfl ?_
              refine rs_topi (v := 1) (by decide) ?_
              refine dl_ist wi_405_250 rfl (fun lv l7 t49 => ?_)
              have l0 := t49 _ _ (by decide) (Or.inl rfl) l0
              have l5 := t49 _ _ (by decide) (Or.inl rfl) l5
              refine whl_ex (A := fun s50 : Int32 × cS => ∀ lv, rx_ld lv 0 = some (.ref 174) → rx_ld lv 5 = some (.int v22) → rx_ld lv 7 = some (.int s50.1) → rs (rt_P sc fm) 405 F Lo 252 lv [] (hq false s50.2 y w) Q) (B := (fun x56 : cS => ∀ lv, rs (rt_P sc fm) 405 F Lo 296 lv [] (hq false x56 y w) Q)) ?_ ?_ _ _ (wp_bind h) _ l0 l5 l7
              · intro s50 h lv l0 l5 l7
                refine rs_ild wi_405_252 l7 ?_
                refine rs_ifeq (tg := 296) wi_405_254 ⟨by decide, by decide⟩ (fun q => ?_) (fun q => ?_)
                ·
                  have h := wp_pos h q
                  exact h _
                ·
                  have h := wp_neg h q
                  refine rs_aldn wi_405_257 l0 ?_
                  refine dq_gi wi_405_258 wf_405_409 tf_174_13 ?_
                  refine rs_ifne (tg := 296) wi_405_261 ⟨by decide, by decide⟩ (fun q => ?_) (fun q => ?_)
                  ·
                    have h := wp_neg h q
                    exact h _
                  ·
                    have h := wp_pos h q
                    refine rs_aldn wi_405_264 l0 ?_
                    refine rs_ild wi_405_265 l5 ?_
                    refine rs_V wi_405_267 wc_405_594 rfl (dq_isa tf_174_0 wa_15_408) (Nat.le_trans (by decide) hF) (ml_le wm_408 (Nat.le_trans (by decide) hLo)) rfl (sp_408 hw (Nat.le_trans (by decide : 8 ≤ 9 - 1) (Nat.sub_le_sub_right hF 1)) (ml_sub wm_408 (Nat.le_trans (by decide : 202 ≤ 230 - 28) (Nat.sub_le_sub_right hLo 28))) (wp_bind h) (fun r51 h => rs_back0 ?_))
                    refine rs_aldn wi_405_270 l0 ?_
                    refine dq_gi wi_405_271 wf_405_409 tf_174_13 ?_
                    refine wp_jn (B := fun p52 : Int32 × cS => ∀ lv, rx_ld lv 0 = some (.ref 174) → rx_ld lv 5 = some (.int v22) → rs (rt_P sc fm) 405 F Lo 291 lv [.int p52.1] (hq false p52.2 y w) Q) h (fun p52 h lv l0 l5 => ?_) (fun j291 hj291 h => ?_)
                    ·
                      refine dl_ist wi_405_291 rfl (fun lv l7 t53 => ?_)
                      have l0 := t53 _ _ (by decide) (Or.inl rfl) l0
                      have l5 := t53 _ _ (by decide) (Or.inl rfl) l5
                      refine rs_goto (tg := 252) wi_405_293 ⟨by decide, by decide⟩ ?_
                      exact h _ l0 l5 l7
                    refine wp_jn (B := fun p54 : cS => ∀ lv, rx_ld lv 0 = some (.ref 174) → rx_ld lv 5 = some (.int v22) → rs (rt_P sc fm) 405 F Lo 290 lv [] (hq false p54 y w) Q) h (fun p54 h lv l0 l5 => ?_) (fun j290 hj290 h => ?_)
                    ·
                      refine rs_pure wi_405_290 rfl ?_
                      refine rs_topi (v := 0) (by decide) ?_
                      exact hj291 _ h _ l0 l5
                    refine rs_ifne (tg := 290) wi_405_274 ⟨by decide, by decide⟩ (fun q => ?_) (fun q => ?_)
                    ·
                      have h := wp_neg h q
                      exact hj290 _ h _ l0 l5
                    ·
                      have h := wp_pos h q
                      refine rs_aldn wi_405_277 l0 ?_
                      refine rs_pure wi_405_278 rfl ?_
                      refine rs_topi (v := 125) (by decide) ?_
                      refine rs_V wi_405_280 wc_405_483 rfl (dq_isa tf_174_0 wa_15_379) (Nat.le_trans (by decide) hF) (ml_le wm_379 (Nat.le_trans (by decide) hLo)) rfl (sp_379 hw (Nat.le_trans (by decide : 1 ≤ 9 - 1) (Nat.sub_le_sub_right hF 1)) (ml_sub wm_379 (Nat.le_trans (by decide : 21 ≤ 230 - 21) (Nat.sub_le_sub_right hLo 21))) (wp_bind h) (fun r55 h => rs_back1 ?_))
                      refine rs_ifne (tg := 290) wi_405_283 ⟨by decide, by decide⟩ (fun q => ?_) (fun q => ?_)
                      ·
                        have h := wp_neg h q
                        exact hj290 _ h _ l0 l5
                      ·
                        have h := wp_pos h q
                        refine rs_pure wi_405_286 rfl ?_
                        refine rs_topi (v := 1) (by decide) ?_
                        refine rs_goto (tg := 291) wi_405_287 ⟨by decide, by decide⟩ ?_
                        exact hj291 _ h _ l0 l5
              ·
                intro x56 h lv
                exact rs_vret wi_405_296 wr_405 (hQ x56 h)
            ·
              have h := wp_neg h q
              exact rs_vret wi_405_223 wr_405 (hQ r42 h)
          refine rs_ifne (tg := 210) wi_405_173 ⟨by decide, by decide⟩ (fun q => ?_) (fun q => ?_)
          ·
            have h := wp_neg h q
            exact hj210 _ h _ l0 l1 l5 l6
          ·
            have h := wp_pos h q
            refine rs_pure wi_405_176 rfl ?_
            refine rs_topi (v := 1) (by decide) ?_
            refine dl_ist wi_405_177 rfl (fun lv l7 t57 => ?_)
            have l0 := t57 _ _ (by decide) (Or.inl rfl) l0
            have l1 := t57 _ _ (by decide) (Or.inl rfl) l1
            have l5 := t57 _ _ (by decide) (Or.inl rfl) l5
            have l6 := t57 _ _ (by decide) (Or.inl rfl) l6
            refine whl_ex (A := fun s58 : Int32 × cS => ∀ lv, rx_ld lv 0 = some (.ref 174) → rx_ld lv 1 = some (.int a1) → rx_ld lv 5 = some (.int v22) → rx_ld lv 6 = some (.int v26) → rx_ld lv 7 = some (.int s58.1) → rs (rt_P sc fm) 405 F Lo 179 lv [] (hq false s58.2 y w) Q) (B := (fun x62 : cS => ∀ lv, rx_ld lv 0 = some (.ref 174) → rx_ld lv 1 = some (.int a1) → rx_ld lv 5 = some (.int v22) → rx_ld lv 6 = some (.int v26) → rs (rt_P sc fm) 405 F Lo 210 lv [] (hq false x62 y w) Q)) ?_ ?_ _ _ (wp_bind h) _ l0 l1 l5 l6 l7
            · intro s58 h lv l0 l1 l5 l6 l7
              refine rs_ild wi_405_179 l7 ?_
              refine rs_ifeq (tg := 210) wi_405_181 ⟨by decide, by decide⟩ (fun q => ?_) (fun q => ?_)
              ·
                have h := wp_pos h q
                exact h _ l0 l1 l5 l6
              ·
                have h := wp_neg h q
                refine rs_aldn wi_405_184 l0 ?_
                refine dq_gi wi_405_185 wf_405_409 tf_174_13 ?_
                refine rs_ifne (tg := 210) wi_405_188 ⟨by decide, by decide⟩ (fun q => ?_) (fun q => ?_)
                ·
                  have h := wp_neg h q
                  exact h _ l0 l1 l5 l6
                ·
                  have h := wp_pos h q
                  refine rs_aldn wi_405_191 l0 ?_
                  refine rs_ild wi_405_192 l5 ?_
                  refine rs_ild wi_405_194 l6 ?_
                  refine rs_V wi_405_196 wc_405_591 rfl (dq_isa tf_174_0 wa_15_406) (Nat.le_trans (by decide) hF) (ml_le wm_406 (Nat.le_trans (by decide) hLo)) rfl (sp_406 hw (Nat.le_trans (by decide : 6 ≤ 9 - 1) (Nat.sub_le_sub_right hF 1)) (ml_sub wm_406 (Nat.le_trans (by decide : 154 ≤ 230 - 26) (Nat.sub_le_sub_right hLo 26))) (wp_bind h) (fun r59 h => rs_back0 ?_))
                  refine rs_aldn wi_405_199 l0 ?_
                  refine rs_pure wi_405_200 rfl ?_
                  refine rs_topi (v := 44) (by decide) ?_
                  refine rs_V wi_405_202 wc_405_483 rfl (dq_isa tf_174_0 wa_15_379) (Nat.le_trans (by decide) hF) (ml_le wm_379 (Nat.le_trans (by decide) hLo)) rfl (sp_379 hw (Nat.le_trans (by decide : 1 ≤ 9 - 1) (Nat.sub_le_sub_right hF 1)) (ml_sub wm_379 (Nat.le_trans (by decide : 21 ≤ 230 - 21) (Nat.sub_le_sub_right hLo 21))) (wp_bind h) (fun r60 h => rs_back1 ?_))
                  refine dl_ist wi_405_205 rfl (fun lv l7 t61 => ?_)
                  have l0 := t61 _ _ (by decide) (Or.inl rfl) l0
                  have l1 := t61 _ _ (by decide) (Or.inl rfl) l1
                  have l5 := t61 _ _ (by decide) (Or.inl rfl) l5
                  have l6 := t61 _ _ (by decide) (Or.inl rfl) l6
                  refine rs_goto (tg := 179) wi_405_207 ⟨by decide, by decide⟩ ?_
                  exact h _ l0 l1 l5 l6 l7
            ·
              intro x62 h lv l0 l1 l5 l6
              exact hj210 _ h _ l0 l1 l5 l6
        ·
          have h := wp_neg h q
          exact rs_vret wi_405_102 wr_405 (hQ r19 h)
      refine rs_icne (tg := 89) wi_405_74 ⟨by decide, by decide⟩ (fun q => ?_) (fun q => ?_)
      ·
        have h := wp_neg h q
        exact hj89 _ h _ l0 l1 l3
      ·
        have h := wp_pos h q
        refine rs_aldn wi_405_77 l0 ?_
        refine rs_pure wi_405_78 rfl ?_
        refine rs_topi (v := 6) (by decide) ?_
        refine rs_aldn wi_405_80 l0 ?_
        refine dq_gr wi_405_81 wf_405_87 tf_174_9 ?_
        refine rs_ildn wi_405_84 l2 ?_
        obtain ⟨g63, h⟩ := wp_gd h
        refine dq_iald wi_405_85 t_179 g63 ?_
        refine rs_V wi_405_86 wc_405_432 rfl (dq_isa tf_174_0 wa_15_97) (Nat.le_trans (by decide) hF) (ml_le wm_97 (Nat.le_trans (by decide) hLo)) rfl (sp_97 hw (Nat.le_trans (by decide : 0 ≤ 9 - 1) (Nat.sub_le_sub_right hF 1)) (ml_sub wm_97 (Nat.le_trans (by decide : 0 ≤ 230 - 22) (Nat.sub_le_sub_right hLo 22))) (wp_bind h) (fun r64 h => rs_back0 ?_))
        exact hj89 _ h _ l0 l1 l3
  ·
    have h := wp_neg h q
    exact rs_vret wi_405_17 wr_405 (hQ r4.2 h)
theorem t_201 : ta false 201 0 12 := ⟨rfl, by decide, by decide⟩
theorem tf_174_39 : fo false 174 15 39 (.ref 201) := ⟨_, rfl, rfl, by decide, by decide⟩
theorem wa_15_404 : rz_cn 15 (rx_yn (rt_P sc fm) 404).cls = true := (by decide +kernel : rz_cn 15 (rt_yn 404).cls = true)
theorem wa_15_405 : rz_cn 15 (rx_yn (rt_P sc fm) 405).cls = true := (by decide +kernel : rz_cn 15 (rt_yn 405).cls = true)
theorem wc_403_432 : rx_ct (rt_P sc fm) 403 432 = some (0, 97, 2) := (by decide +kernel : rt_ct 403 432 = some (0, 97, 2))
theorem wc_403_468 : rx_ct (rt_P sc fm) 403 468 = some (0, 375, 1) := (by decide +kernel : rt_ct 403 468 = some (0, 375, 1))
theorem wc_403_483 : rx_ct (rt_P sc fm) 403 483 = some (0, 379, 1) := (by decide +kernel : rt_ct 403 483 = some (0, 379, 1))
theorem wc_403_490 : rx_ct (rt_P sc fm) 403 490 = some (0, 102, 1) := (by decide +kernel : rt_ct 403 490 = some (0, 102, 1))
theorem wc_403_505 : rx_ct (rt_P sc fm) 403 505 = some (0, 381, 0) := (by decide +kernel : rt_ct 403 505 = some (0, 381, 0))
theorem wc_403_517 : rx_ct (rt_P sc fm) 403 517 = some (0, 383, 2) := (by decide +kernel : rt_ct 403 517 = some (0, 383, 2))
theorem wc_403_521 : rx_ct (rt_P sc fm) 403 521 = some (0, 380, 1) := (by decide +kernel : rt_ct 403 521 = some (0, 380, 1))
theorem wc_403_581 : rx_ct (rt_P sc fm) 403 581 = some (0, 396, 4) := (by decide +kernel : rt_ct 403 581 = some (0, 396, 4))
theorem wc_403_585 : rx_ct (rt_P sc fm) 403 585 = some (0, 404, 1) := (by decide +kernel : rt_ct 403 585 = some (0, 404, 1))
theorem wc_403_588 : rx_ct (rt_P sc fm) 403 588 = some (0, 405, 1) := (by decide +kernel : rt_ct 403 588 = some (0, 405, 1))
theorem wf_403_152 : rx_ft (rt_P sc fm) 403 152 = some (15, 38) := (by decide +kernel : rt_ft 403 152 = some (15, 38))
theorem wf_403_155 : rx_ft (rt_P sc fm) 403 155 = some (15, 39) := (by decide +kernel : rt_ft 403 155 = some (15, 39))
theorem wf_403_158 : rx_ft (rt_P sc fm) 403 158 = some (15, 40) := (by decide +kernel : rt_ft 403 158 = some (15, 40))
theorem wf_403_161 : rx_ft (rt_P sc fm) 403 161 = some (15, 41) := (by decide +kernel : rt_ft 403 161 = some (15, 41))
theorem wf_403_409 : rx_ft (rt_P sc fm) 403 409 = some (15, 13) := (by decide +kernel : rt_ft 403 409 = some (15, 13))
theorem wf_403_456 : rx_ft (rt_P sc fm) 403 456 = some (15, 37) := (by decide +kernel : rt_ft 403 456 = some (15, 37))
theorem wf_403_471 : rx_ft (rt_P sc fm) 403 471 = some (15, 67) := (by decide +kernel : rt_ft 403 471 = some (15, 67))
theorem wf_403_87 : rx_ft (rt_P sc fm) 403 87 = some (15, 9) := (by decide +kernel : rt_ft 403 87 = some (15, 9))
theorem wi_403_0 : ri (rt_P sc fm) 403 0 (.aload_n 0) (1) := ri_of (by decide +kernel) rfl
theorem wi_403_1 : ri (rt_P sc fm) 403 1 (.aload_n 0) (2) := ri_of (by decide +kernel) rfl
theorem wi_403_10 : ri (rt_P sc fm) 403 10 (.lstore_n 1) (11) := ri_of (by decide +kernel) rfl
theorem wi_403_101 : ri (rt_P sc fm) 403 101 (.iload_n 3) (102) := ri_of (by decide +kernel) rfl
theorem wi_403_102 : ri (rt_P sc fm) 403 102 (.iastore) (103) := ri_of (by decide +kernel) rfl
theorem wi_403_103 : ri (rt_P sc fm) 403 103 (.aload_n 0) (104) := ri_of (by decide +kernel) rfl
theorem wi_403_104 : ri (rt_P sc fm) 403 104 (.getfield 158) (107) := ri_of (by decide +kernel) rfl
theorem wi_403_107 : ri (rt_P sc fm) 403 107 (.iload 4) (109) := ri_of (by decide +kernel) rfl
theorem wi_403_109 : ri (rt_P sc fm) 403 109 (.iconst 0) (110) := ri_of (by decide +kernel) rfl
theorem wi_403_11 : ri (rt_P sc fm) 403 11 (.aload_n 0) (12) := ri_of (by decide +kernel) rfl
theorem wi_403_110 : ri (rt_P sc fm) 403 110 (.iastore) (111) := ri_of (by decide +kernel) rfl
theorem wi_403_111 : ri (rt_P sc fm) 403 111 (.aload_n 0) (112) := ri_of (by decide +kernel) rfl
theorem wi_403_112 : ri (rt_P sc fm) 403 112 (.getfield 161) (115) := ri_of (by decide +kernel) rfl
theorem wi_403_115 : ri (rt_P sc fm) 403 115 (.iload 4) (117) := ri_of (by decide +kernel) rfl
theorem wi_403_117 : ri (rt_P sc fm) 403 117 (.iconst 0) (118) := ri_of (by decide +kernel) rfl
theorem wi_403_118 : ri (rt_P sc fm) 403 118 (.iastore) (119) := ri_of (by decide +kernel) rfl
theorem wi_403_119 : ri (rt_P sc fm) 403 119 (.aload_n 0) (120) := ri_of (by decide +kernel) rfl
theorem wi_403_12 : ri (rt_P sc fm) 403 12 (.getfield 409) (15) := ri_of (by decide +kernel) rfl
theorem wi_403_120 : ri (rt_P sc fm) 403 120 (.bipush 100) (122) := ri_of (by decide +kernel) rfl
theorem wi_403_122 : ri (rt_P sc fm) 403 122 (.iload 4) (124) := ri_of (by decide +kernel) rfl
theorem wi_403_124 : ri (rt_P sc fm) 403 124 (.imul) (125) := ri_of (by decide +kernel) rfl
theorem wi_403_125 : ri (rt_P sc fm) 403 125 (.iconst 1) (126) := ri_of (by decide +kernel) rfl
theorem wi_403_126 : ri (rt_P sc fm) 403 126 (.iconst 1) (127) := ri_of (by decide +kernel) rfl
theorem wi_403_127 : ri (rt_P sc fm) 403 127 (.iconst 0) (128) := ri_of (by decide +kernel) rfl
theorem wi_403_128 : ri (rt_P sc fm) 403 128 (.invokevirtual 581) (131) := ri_of (by decide +kernel) rfl
theorem wi_403_131 : ri (rt_P sc fm) 403 131 (.aload_n 0) (132) := ri_of (by decide +kernel) rfl
theorem wi_403_132 : ri (rt_P sc fm) 403 132 (.bipush 123) (134) := ri_of (by decide +kernel) rfl
theorem wi_403_134 : ri (rt_P sc fm) 403 134 (.invokevirtual 521) (137) := ri_of (by decide +kernel) rfl
theorem wi_403_137 : ri (rt_P sc fm) 403 137 (.aload_n 0) (138) := ri_of (by decide +kernel) rfl
theorem wi_403_138 : ri (rt_P sc fm) 403 138 (.getfield 409) (141) := ri_of (by decide +kernel) rfl
theorem wi_403_141 : ri (rt_P sc fm) 403 141 (.ifCond .eq 4) (144) := ri_of (by decide +kernel) rfl
theorem wi_403_144 : ri (rt_P sc fm) 403 144 (.return_) (145) := ri_of (by decide +kernel) rfl
theorem wi_403_145 : ri (rt_P sc fm) 403 145 (.aload_n 0) (146) := ri_of (by decide +kernel) rfl
theorem wi_403_146 : ri (rt_P sc fm) 403 146 (.dup) (147) := ri_of (by decide +kernel) rfl
theorem wi_403_147 : ri (rt_P sc fm) 403 147 (.getfield 456) (150) := ri_of (by decide +kernel) rfl
theorem wi_403_15 : ri (rt_P sc fm) 403 15 (.ifCond .eq 4) (18) := ri_of (by decide +kernel) rfl
theorem wi_403_150 : ri (rt_P sc fm) 403 150 (.iconst 1) (151) := ri_of (by decide +kernel) rfl
theorem wi_403_151 : ri (rt_P sc fm) 403 151 (.iadd) (152) := ri_of (by decide +kernel) rfl
theorem wi_403_152 : ri (rt_P sc fm) 403 152 (.putfield 456) (155) := ri_of (by decide +kernel) rfl
theorem wi_403_155 : ri (rt_P sc fm) 403 155 (.iconst 1) (156) := ri_of (by decide +kernel) rfl
theorem wi_403_156 : ri (rt_P sc fm) 403 156 (.istore 5) (158) := ri_of (by decide +kernel) rfl
theorem wi_403_158 : ri (rt_P sc fm) 403 158 (.iload 5) (160) := ri_of (by decide +kernel) rfl
theorem wi_403_160 : ri (rt_P sc fm) 403 160 (.ifCond .eq 50) (163) := ri_of (by decide +kernel) rfl
theorem wi_403_163 : ri (rt_P sc fm) 403 163 (.aload_n 0) (164) := ri_of (by decide +kernel) rfl
theorem wi_403_164 : ri (rt_P sc fm) 403 164 (.getfield 409) (167) := ri_of (by decide +kernel) rfl
theorem wi_403_167 : ri (rt_P sc fm) 403 167 (.ifCond .ne 43) (170) := ri_of (by decide +kernel) rfl
theorem wi_403_170 : ri (rt_P sc fm) 403 170 (.aload_n 0) (171) := ri_of (by decide +kernel) rfl
theorem wi_403_171 : ri (rt_P sc fm) 403 171 (.iconst 3) (172) := ri_of (by decide +kernel) rfl
theorem wi_403_172 : ri (rt_P sc fm) 403 172 (.invokevirtual 490) (175) := ri_of (by decide +kernel) rfl
theorem wi_403_175 : ri (rt_P sc fm) 403 175 (.ifCond .eq 12) (178) := ri_of (by decide +kernel) rfl
theorem wi_403_178 : ri (rt_P sc fm) 403 178 (.aload_n 0) (179) := ri_of (by decide +kernel) rfl
theorem wi_403_179 : ri (rt_P sc fm) 403 179 (.iload 4) (181) := ri_of (by decide +kernel) rfl
theorem wi_403_18 : ri (rt_P sc fm) 403 18 (.return_) (19) := ri_of (by decide +kernel) rfl
theorem wi_403_181 : ri (rt_P sc fm) 403 181 (.invokevirtual 585) (184) := ri_of (by decide +kernel) rfl
theorem wi_403_184 : ri (rt_P sc fm) 403 184 (.goto (-26)) (187) := ri_of (by decide +kernel) rfl
theorem wi_403_187 : ri (rt_P sc fm) 403 187 (.aload_n 0) (188) := ri_of (by decide +kernel) rfl
theorem wi_403_188 : ri (rt_P sc fm) 403 188 (.iconst 4) (189) := ri_of (by decide +kernel) rfl
theorem wi_403_189 : ri (rt_P sc fm) 403 189 (.invokevirtual 490) (192) := ri_of (by decide +kernel) rfl
theorem wi_403_19 : ri (rt_P sc fm) 403 19 (.iconst (-1)) (20) := ri_of (by decide +kernel) rfl
theorem wi_403_192 : ri (rt_P sc fm) 403 192 (.ifCond .eq 12) (195) := ri_of (by decide +kernel) rfl
theorem wi_403_195 : ri (rt_P sc fm) 403 195 (.aload_n 0) (196) := ri_of (by decide +kernel) rfl
theorem wi_403_196 : ri (rt_P sc fm) 403 196 (.iload 4) (198) := ri_of (by decide +kernel) rfl
theorem wi_403_198 : ri (rt_P sc fm) 403 198 (.invokevirtual 588) (201) := ri_of (by decide +kernel) rfl
theorem wi_403_2 : ri (rt_P sc fm) 403 2 (.getfield 456) (5) := ri_of (by decide +kernel) rfl
theorem wi_403_20 : ri (rt_P sc fm) 403 20 (.istore_n 3) (21) := ri_of (by decide +kernel) rfl
theorem wi_403_201 : ri (rt_P sc fm) 403 201 (.goto (-43)) (204) := ri_of (by decide +kernel) rfl
theorem wi_403_204 : ri (rt_P sc fm) 403 204 (.iconst 0) (205) := ri_of (by decide +kernel) rfl
theorem wi_403_205 : ri (rt_P sc fm) 403 205 (.istore 5) (207) := ri_of (by decide +kernel) rfl
theorem wi_403_207 : ri (rt_P sc fm) 403 207 (.goto (-49)) (210) := ri_of (by decide +kernel) rfl
theorem wi_403_21 : ri (rt_P sc fm) 403 21 (.aload_n 0) (22) := ri_of (by decide +kernel) rfl
theorem wi_403_210 : ri (rt_P sc fm) 403 210 (.aload_n 0) (211) := ri_of (by decide +kernel) rfl
theorem wi_403_211 : ri (rt_P sc fm) 403 211 (.bipush 125) (213) := ri_of (by decide +kernel) rfl
theorem wi_403_213 : ri (rt_P sc fm) 403 213 (.invokevirtual 521) (216) := ri_of (by decide +kernel) rfl
theorem wi_403_216 : ri (rt_P sc fm) 403 216 (.return_) (217) := ri_of (by decide +kernel) rfl
theorem wi_403_22 : ri (rt_P sc fm) 403 22 (.bipush 58) (24) := ri_of (by decide +kernel) rfl
theorem wi_403_24 : ri (rt_P sc fm) 403 24 (.invokevirtual 483) (27) := ri_of (by decide +kernel) rfl
theorem wi_403_27 : ri (rt_P sc fm) 403 27 (.ifCond .eq 46) (30) := ri_of (by decide +kernel) rfl
theorem wi_403_30 : ri (rt_P sc fm) 403 30 (.aload_n 0) (31) := ri_of (by decide +kernel) rfl
theorem wi_403_31 : ri (rt_P sc fm) 403 31 (.getfield 471) (34) := ri_of (by decide +kernel) rfl
theorem wi_403_34 : ri (rt_P sc fm) 403 34 (.istore 4) (36) := ri_of (by decide +kernel) rfl
theorem wi_403_36 : ri (rt_P sc fm) 403 36 (.aload_n 0) (37) := ri_of (by decide +kernel) rfl
theorem wi_403_37 : ri (rt_P sc fm) 403 37 (.invokevirtual 505) (40) := ri_of (by decide +kernel) rfl
theorem wi_403_40 : ri (rt_P sc fm) 403 40 (.lstore 5) (42) := ri_of (by decide +kernel) rfl
theorem wi_403_42 : ri (rt_P sc fm) 403 42 (.aload_n 0) (43) := ri_of (by decide +kernel) rfl
theorem wi_403_43 : ri (rt_P sc fm) 403 43 (.getfield 409) (46) := ri_of (by decide +kernel) rfl
theorem wi_403_46 : ri (rt_P sc fm) 403 46 (.ifCond .eq 4) (49) := ri_of (by decide +kernel) rfl
theorem wi_403_49 : ri (rt_P sc fm) 403 49 (.return_) (50) := ri_of (by decide +kernel) rfl
theorem wi_403_5 : ri (rt_P sc fm) 403 5 (.bipush 12) (7) := ri_of (by decide +kernel) rfl
theorem wi_403_50 : ri (rt_P sc fm) 403 50 (.aload_n 0) (51) := ri_of (by decide +kernel) rfl
theorem wi_403_51 : ri (rt_P sc fm) 403 51 (.lload 5) (53) := ri_of (by decide +kernel) rfl
theorem wi_403_53 : ri (rt_P sc fm) 403 53 (.invokevirtual 468) (56) := ri_of (by decide +kernel) rfl
theorem wi_403_56 : ri (rt_P sc fm) 403 56 (.istore_n 3) (57) := ri_of (by decide +kernel) rfl
theorem wi_403_57 : ri (rt_P sc fm) 403 57 (.iload_n 3) (58) := ri_of (by decide +kernel) rfl
theorem wi_403_58 : ri (rt_P sc fm) 403 58 (.ifCond .ge 15) (61) := ri_of (by decide +kernel) rfl
theorem wi_403_61 : ri (rt_P sc fm) 403 61 (.aload_n 0) (62) := ri_of (by decide +kernel) rfl
theorem wi_403_62 : ri (rt_P sc fm) 403 62 (.iconst 5) (63) := ri_of (by decide +kernel) rfl
theorem wi_403_63 : ri (rt_P sc fm) 403 63 (.aload_n 0) (64) := ri_of (by decide +kernel) rfl
theorem wi_403_64 : ri (rt_P sc fm) 403 64 (.getfield 87) (67) := ri_of (by decide +kernel) rfl
theorem wi_403_67 : ri (rt_P sc fm) 403 67 (.iload 4) (69) := ri_of (by decide +kernel) rfl
theorem wi_403_69 : ri (rt_P sc fm) 403 69 (.iaload) (70) := ri_of (by decide +kernel) rfl
theorem wi_403_7 : ri (rt_P sc fm) 403 7 (.invokevirtual 517) (10) := ri_of (by decide +kernel) rfl
theorem wi_403_70 : ri (rt_P sc fm) 403 70 (.invokevirtual 432) (73) := ri_of (by decide +kernel) rfl
theorem wi_403_73 : ri (rt_P sc fm) 403 73 (.aload_n 0) (74) := ri_of (by decide +kernel) rfl
theorem wi_403_74 : ri (rt_P sc fm) 403 74 (.getfield 409) (77) := ri_of (by decide +kernel) rfl
theorem wi_403_77 : ri (rt_P sc fm) 403 77 (.ifCond .eq 4) (80) := ri_of (by decide +kernel) rfl
theorem wi_403_80 : ri (rt_P sc fm) 403 80 (.return_) (81) := ri_of (by decide +kernel) rfl
theorem wi_403_81 : ri (rt_P sc fm) 403 81 (.aload_n 0) (82) := ri_of (by decide +kernel) rfl
theorem wi_403_82 : ri (rt_P sc fm) 403 82 (.getfield 456) (85) := ri_of (by decide +kernel) rfl
theorem wi_403_85 : ri (rt_P sc fm) 403 85 (.istore 4) (87) := ri_of (by decide +kernel) rfl
theorem wi_403_87 : ri (rt_P sc fm) 403 87 (.aload_n 0) (88) := ri_of (by decide +kernel) rfl
theorem wi_403_88 : ri (rt_P sc fm) 403 88 (.getfield 152) (91) := ri_of (by decide +kernel) rfl
theorem wi_403_91 : ri (rt_P sc fm) 403 91 (.iload 4) (93) := ri_of (by decide +kernel) rfl
theorem wi_403_93 : ri (rt_P sc fm) 403 93 (.lload_n 1) (94) := ri_of (by decide +kernel) rfl
theorem wi_403_94 : ri (rt_P sc fm) 403 94 (.lastore) (95) := ri_of (by decide +kernel) rfl
theorem wi_403_95 : ri (rt_P sc fm) 403 95 (.aload_n 0) (96) := ri_of (by decide +kernel) rfl
theorem wi_403_96 : ri (rt_P sc fm) 403 96 (.getfield 155) (99) := ri_of (by decide +kernel) rfl
theorem wi_403_99 : ri (rt_P sc fm) 403 99 (.iload 4) (101) := ri_of (by decide +kernel) rfl
theorem wm_404 : rx_ml (rt_P sc fm) 404 = 6 := (by decide +kernel : rt_ml 404 = 6)
theorem wm_405 : rx_ml (rt_P sc fm) 405 = 8 := (by decide +kernel : rt_ml 405 = 8)
theorem wp_403_456 : rx_pt (rt_P sc fm) 403 456 = some (15, 37, .int) := (by decide +kernel : rt_pt 403 456 = some (15, 37, .int))
theorem wr_403 : rx_rt (rt_P sc fm) 403 = none := (by decide +kernel : rt_rt 403 = none)
/-- MarkHouseModel.readClass()V -/
def d_403 (n : Nat)  (c : cS) : Option (cS) :=
  Option.bind (d_383 n (c.1 174 37) 12 c) (fun r1 =>
  if (r1.2.1 174 13) = 0 then
    Option.bind (d_379 n 58 r1.2) (fun r4 =>
    jn (fun p5 : Int32 × cS =>
      if (p5.2.1 174 13) = 0 then
        lt ((p5.2.1 174 37) : Int32) (fun v7 =>
        if ib v7 12 then
        lt (pL p5.2 200 (ix v7) r1.1) (fun c10 =>
        if ib v7 12 then
        lt (pI c10 201 (ix v7) p5.1) (fun c13 =>
        if ib v7 12 then
        lt (pI c13 202 (ix v7) 0) (fun c16 =>
        if ib v7 12 then
        lt (pI c16 203 (ix v7) 0) (fun c19 =>
        Option.bind (d_396 n (100 * v7) 1 1 0 c19) (fun r21 =>
        Option.bind (d_380 n 123 r21) (fun r22 =>
        if (r22.1 174 13) = 0 then
          lt (pI r22 174 37 ((r22.1 174 37) + 1)) (fun c23 =>
          Option.bind (whl (R := (cS)) (fun s26 : Int32 × cS =>
            if s26.1 = 0 then
              some (.inr s26.2)
            else
              if (s26.2.1 174 13) = 0 then
                Option.bind (d_102 n 3 s26.2) (fun r27 =>
                if r27.1 = 0 then
                  Option.bind (d_102 n 4 r27.2) (fun r28 =>
                  if r28.1 = 0 then
                    some (.inl (0, r28.2))
                  else
                    Option.bind (d_405 n v7 r28.2) (fun r30 =>
                    some (.inl (s26.1, r30))))
                else
                  Option.bind (d_404 n v7 r27.2) (fun r31 =>
                  some (.inl (s26.1, r31))))
              else
                some (.inr s26.2)) n (1, c23))
          (fun x32 : cS =>
            Option.bind (d_380 n 125 x32) (fun r33 =>
            some r33)))
        else
          some r22)))
        else none)
        else none)
        else none)
        else none)
      else
        some p5.2)
    (fun j73 =>
    if r4.1 = 0 then
      j73 ((-1), r4.2)
    else
      lt ((r4.2.1 174 67) : Int32) (fun v35 =>
      Option.bind (d_381 n r4.2) (fun r37 =>
      if (r37.2.1 174 13) = 0 then
        Option.bind (d_375 n r37.1 r37.2) (fun v39 =>
        if 0 ≤ v39 then
          j73 (v39, r37.2)
        else
          if ib v35 4001 then
          Option.bind (d_97 n 5 (r37.2.1 179 (ix v35)) r37.2) (fun r42 =>
          j73 (v39, r42))
          else none)
      else
        some r37.2))))
  else
    some r1.2)
set_option maxRecDepth 100000 in
set_option maxHeartbeats 4000000 in
theorem sp_403 {F Lo n : Nat}  {c y : cS} {w : cW} {K : cS → Prop} {Q : ((Option Value) ⊕ String) → List va_E → Prop} (hw : rOK fm w) (hF : 10 ≤ F) (hLo : 257 ≤ Lo)  (h : wp (d_403 n  c) K) (hQ : ∀ r, K r → Q (.inl none) (hq false r y w)) : rs (rt_P sc fm) 403 F Lo 0 [(0, .ref 174)] [] (hq false c y w) Q := by
  unfold d_403 at h
  obtain ⟨lv, elv⟩ : ∃ lv : rx_L, lv = [(0, .ref 174)] := ⟨_, rfl⟩
  rw [← elv]
  have l0 : rx_ld lv 0 = some (.ref 174) := by rw [elv]; rfl
  refine rs_aldn wi_403_0 l0 ?_
  refine rs_aldn wi_403_1 l0 ?_
  refine dq_gi wi_403_2 wf_403_456 tf_174_37 ?_
  refine rs_pure wi_403_5 rfl ?_
  refine rs_topi (v := 12) (by decide) ?_
  refine rs_V wi_403_7 wc_403_517 rfl (dq_isa tf_174_0 wa_15_383) (Nat.le_trans (by decide) hF) (ml_le wm_383 (Nat.le_trans (by decide) hLo)) rfl (sp_383 hw (Nat.le_trans (by decide : 3 ≤ 10 - 1) (Nat.sub_le_sub_right hF 1)) (ml_sub wm_383 (Nat.le_trans (by decide : 62 ≤ 257 - 25) (Nat.sub_le_sub_right hLo 25))) (wp_bind h) (fun r1 h => rs_back1 ?_))
  refine dl_lstn wi_403_10 rfl (fun lv l1 t2 => ?_)
  have l0 := t2 _ _ (by decide) (by decide) (Or.inl rfl) l0
  refine rs_aldn wi_403_11 l0 ?_
  refine dq_gi wi_403_12 wf_403_409 tf_174_13 ?_
  refine rs_ifeq (tg := 19) wi_403_15 ⟨by decide, by decide⟩ (fun q => ?_) (fun q => ?_)
  ·
    have h := wp_pos h q
    refine rs_pure wi_403_19 rfl ?_
    refine rs_topi (v := (-1)) (by decide) ?_
    refine dl_istn wi_403_20 rfl (fun lv l3 t3 => ?_)
    have l0 := t3 _ _ (by decide) (Or.inl rfl) l0
    have l1 := t3 _ _ (by decide) (Or.inr (by decide)) l1
    refine rs_aldn wi_403_21 l0 ?_
    refine rs_pure wi_403_22 rfl ?_
    refine rs_topi (v := 58) (by decide) ?_
    refine rs_V wi_403_24 wc_403_483 rfl (dq_isa tf_174_0 wa_15_379) (Nat.le_trans (by decide) hF) (ml_le wm_379 (Nat.le_trans (by decide) hLo)) rfl (sp_379 hw (Nat.le_trans (by decide : 1 ≤ 10 - 1) (Nat.sub_le_sub_right hF 1)) (ml_sub wm_379 (Nat.le_trans (by decide : 21 ≤ 257 - 21) (Nat.sub_le_sub_right hLo 21))) (wp_bind h) (fun r4 h => rs_back1 ?_))
    refine wp_jn (B := fun p5 : Int32 × cS => ∀ lv, rx_ld lv 0 = some (.ref 174) → rx_ld lv 1 = some (.long r1.1) → rx_ld lv 3 = some (.int p5.1) → rs (rt_P sc fm) 403 F Lo 73 lv [] (hq false p5.2 y w) Q) h (fun p5 h lv l0 l1 l3 => ?_) (fun j73 hj73 h => ?_)
    ·
      refine rs_aldn wi_403_73 l0 ?_
      refine dq_gi wi_403_74 wf_403_409 tf_174_13 ?_
      refine rs_ifeq (tg := 81) wi_403_77 ⟨by decide, by decide⟩ (fun q => ?_) (fun q => ?_)
      ·
        have h := wp_pos h q
        refine rs_aldn wi_403_81 l0 ?_
        refine dq_gi wi_403_82 wf_403_456 tf_174_37 ?_
        obtain ⟨v7, e8, h⟩ := wp_lt h
        refine rs_topi e8 ?_
        refine dl_ist wi_403_85 rfl (fun lv l4 t6 => ?_)
        have l0 := t6 _ _ (by decide) (Or.inl rfl) l0
        have l1 := t6 _ _ (by decide) (Or.inr (by decide)) l1
        have l3 := t6 _ _ (by decide) (Or.inl rfl) l3
        refine rs_aldn wi_403_87 l0 ?_
        refine dq_gr wi_403_88 wf_403_152 tf_174_38 ?_
        refine rs_ild wi_403_91 l4 ?_
        refine rs_lldn wi_403_93 l1 ?_
        obtain ⟨g9, h⟩ := wp_gd h
        obtain ⟨c10, e11, h⟩ := wp_lt h
        refine dq_last wi_403_94 t_200 g9 e11 ?_
        refine rs_aldn wi_403_95 l0 ?_
        refine dq_gr wi_403_96 wf_403_155 tf_174_39 ?_
        refine rs_ild wi_403_99 l4 ?_
        refine rs_ildn wi_403_101 l3 ?_
        obtain ⟨g12, h⟩ := wp_gd h
        obtain ⟨c13, e14, h⟩ := wp_lt h
        refine dq_iast wi_403_102 t_201 g12 e14 ?_
        refine rs_aldn wi_403_103 l0 ?_
        refine dq_gr wi_403_104 wf_403_158 tf_174_40 ?_
        refine rs_ild wi_403_107 l4 ?_
        refine rs_pure wi_403_109 rfl ?_
        refine rs_topi (v := 0) (by decide) ?_
        obtain ⟨g15, h⟩ := wp_gd h
        obtain ⟨c16, e17, h⟩ := wp_lt h
        refine dq_iast wi_403_110 t_202 g15 e17 ?_
        refine rs_aldn wi_403_111 l0 ?_
        refine dq_gr wi_403_112 wf_403_161 tf_174_41 ?_
        refine rs_ild wi_403_115 l4 ?_
        refine rs_pure wi_403_117 rfl ?_
        refine rs_topi (v := 0) (by decide) ?_
        obtain ⟨g18, h⟩ := wp_gd h
        obtain ⟨c19, e20, h⟩ := wp_lt h
        refine dq_iast wi_403_118 t_203 g18 e20 ?_
        refine rs_aldn wi_403_119 l0 ?_
        refine rs_pure wi_403_120 rfl ?_
        refine rs_topi (v := 100) (by decide) ?_
        refine rs_ild wi_403_122 l4 ?_
        refine rs_pure wi_403_124 rfl ?_
        refine rs_pure wi_403_125 rfl ?_
        refine rs_topi (v := 1) (by decide) ?_
        refine rs_pure wi_403_126 rfl ?_
        refine rs_topi (v := 1) (by decide) ?_
        refine rs_pure wi_403_127 rfl ?_
        refine rs_topi (v := 0) (by decide) ?_
        refine rs_V wi_403_128 wc_403_581 rfl (dq_isa tf_174_0 wa_15_396) (Nat.le_trans (by decide) hF) (ml_le wm_396 (Nat.le_trans (by decide) hLo)) rfl (sp_396 hw (Nat.le_trans (by decide : 5 ≤ 10 - 1) (Nat.sub_le_sub_right hF 1)) (ml_sub wm_396 (Nat.le_trans (by decide : 130 ≤ 257 - 24) (Nat.sub_le_sub_right hLo 24))) (wp_bind h) (fun r21 h => rs_back0 ?_))
        refine rs_aldn wi_403_131 l0 ?_
        refine rs_pure wi_403_132 rfl ?_
        refine rs_topi (v := 123) (by decide) ?_
        refine rs_V wi_403_134 wc_403_521 rfl (dq_isa tf_174_0 wa_15_380) (Nat.le_trans (by decide) hF) (ml_le wm_380 (Nat.le_trans (by decide) hLo)) rfl (sp_380 hw (Nat.le_trans (by decide : 2 ≤ 10 - 1) (Nat.sub_le_sub_right hF 1)) (ml_sub wm_380 (Nat.le_trans (by decide : 42 ≤ 257 - 21) (Nat.sub_le_sub_right hLo 21))) (wp_bind h) (fun r22 h => rs_back0 ?_))
        refine rs_aldn wi_403_137 l0 ?_
        refine dq_gi wi_403_138 wf_403_409 tf_174_13 ?_
        refine rs_ifeq (tg := 145) wi_403_141 ⟨by decide, by decide⟩ (fun q => ?_) (fun q => ?_)
        ·
          have h := wp_pos h q
          refine rs_aldn wi_403_145 l0 ?_
          refine rs_pure wi_403_146 rfl ?_
          refine dq_gi wi_403_147 wf_403_456 tf_174_37 ?_
          refine rs_pure wi_403_150 rfl ?_
          refine rs_topi (v := 1) (by decide) ?_
          refine rs_pure wi_403_151 rfl ?_
          obtain ⟨c23, e24, h⟩ := wp_lt h
          refine dq_pi wi_403_152 wp_403_456 tf_174_37 rfl rfl e24 ?_
          refine rs_pure wi_403_155 rfl ?_
          refine rs_topi (v := 1) (by decide) ?_
          refine dl_ist wi_403_156 rfl (fun lv l5 t25 => ?_)
          have l0 := t25 _ _ (by decide) (Or.inl rfl) l0
          have l4 := t25 _ _ (by decide) (Or.inl rfl) l4
          refine whl_ex (A := fun s26 : Int32 × cS => ∀ lv, rx_ld lv 0 = some (.ref 174) → rx_ld lv 4 = some (.int v7) → rx_ld lv 5 = some (.int s26.1) → rs (rt_P sc fm) 403 F Lo 158 lv [] (hq false s26.2 y w) Q) (B := (fun x32 : cS => ∀ lv, rx_ld lv 0 = some (.ref 174) → rs (rt_P sc fm) 403 F Lo 210 lv [] (hq false x32 y w) Q)) ?_ ?_ _ _ (wp_bind h) _ l0 l4 l5
          · intro s26 h lv l0 l4 l5
            refine rs_ild wi_403_158 l5 ?_
            refine rs_ifeq (tg := 210) wi_403_160 ⟨by decide, by decide⟩ (fun q => ?_) (fun q => ?_)
            ·
              have h := wp_pos h q
              exact h _ l0
            ·
              have h := wp_neg h q
              refine rs_aldn wi_403_163 l0 ?_
              refine dq_gi wi_403_164 wf_403_409 tf_174_13 ?_
              refine rs_ifne (tg := 210) wi_403_167 ⟨by decide, by decide⟩ (fun q => ?_) (fun q => ?_)
              ·
                have h := wp_neg h q
                exact h _ l0
              ·
                have h := wp_pos h q
                refine rs_aldn wi_403_170 l0 ?_
                refine rs_pure wi_403_171 rfl ?_
                refine rs_topi (v := 3) (by decide) ?_
                refine rs_V wi_403_172 wc_403_490 rfl (dq_isa tf_174_0 wa_15_102) (Nat.le_trans (by decide) hF) (ml_le wm_102 (Nat.le_trans (by decide) hLo)) rfl (sp_102 hw (Nat.le_trans (by decide : 1 ≤ 10 - 1) (Nat.sub_le_sub_right hF 1)) (ml_sub wm_102 (Nat.le_trans (by decide : 21 ≤ 257 - 21) (Nat.sub_le_sub_right hLo 21))) (wp_bind h) (fun r27 h => rs_back1 ?_))
                refine rs_ifeq (tg := 187) wi_403_175 ⟨by decide, by decide⟩ (fun q => ?_) (fun q => ?_)
                ·
                  have h := wp_pos h q
                  refine rs_aldn wi_403_187 l0 ?_
                  refine rs_pure wi_403_188 rfl ?_
                  refine rs_topi (v := 4) (by decide) ?_
                  refine rs_V wi_403_189 wc_403_490 rfl (dq_isa tf_174_0 wa_15_102) (Nat.le_trans (by decide) hF) (ml_le wm_102 (Nat.le_trans (by decide) hLo)) rfl (sp_102 hw (Nat.le_trans (by decide : 1 ≤ 10 - 1) (Nat.sub_le_sub_right hF 1)) (ml_sub wm_102 (Nat.le_trans (by decide : 21 ≤ 257 - 21) (Nat.sub_le_sub_right hLo 21))) (wp_bind h) (fun r28 h => rs_back1 ?_))
                  refine rs_ifeq (tg := 204) wi_403_192 ⟨by decide, by decide⟩ (fun q => ?_) (fun q => ?_)
                  ·
                    have h := wp_pos h q
                    refine rs_pure wi_403_204 rfl ?_
                    refine rs_topi (v := 0) (by decide) ?_
                    refine dl_ist wi_403_205 rfl (fun lv l5 t29 => ?_)
                    have l0 := t29 _ _ (by decide) (Or.inl rfl) l0
                    have l4 := t29 _ _ (by decide) (Or.inl rfl) l4
                    refine rs_goto (tg := 158) wi_403_207 ⟨by decide, by decide⟩ ?_
                    exact h _ l0 l4 l5
                  ·
                    have h := wp_neg h q
                    refine rs_aldn wi_403_195 l0 ?_
                    refine rs_ild wi_403_196 l4 ?_
                    refine rs_V wi_403_198 wc_403_588 rfl (dq_isa tf_174_0 wa_15_405) (Nat.le_trans (by decide) hF) (ml_le wm_405 (Nat.le_trans (by decide) hLo)) rfl (sp_405 hw (Nat.le_trans (by decide : 9 ≤ 10 - 1) (Nat.sub_le_sub_right hF 1)) (ml_sub wm_405 (Nat.le_trans (by decide : 230 ≤ 257 - 27) (Nat.sub_le_sub_right hLo 27))) (wp_bind h) (fun r30 h => rs_back0 ?_))
                    refine rs_goto (tg := 158) wi_403_201 ⟨by decide, by decide⟩ ?_
                    exact h _ l0 l4 l5
                ·
                  have h := wp_neg h q
                  refine rs_aldn wi_403_178 l0 ?_
                  refine rs_ild wi_403_179 l4 ?_
                  refine rs_V wi_403_181 wc_403_585 rfl (dq_isa tf_174_0 wa_15_404) (Nat.le_trans (by decide) hF) (ml_le wm_404 (Nat.le_trans (by decide) hLo)) rfl (sp_404 hw (Nat.le_trans (by decide : 6 ≤ 10 - 1) (Nat.sub_le_sub_right hF 1)) (ml_sub wm_404 (Nat.le_trans (by decide : 154 ≤ 257 - 25) (Nat.sub_le_sub_right hLo 25))) (wp_bind h) (fun r31 h => rs_back0 ?_))
                  refine rs_goto (tg := 158) wi_403_184 ⟨by decide, by decide⟩ ?_
                  exact h _ l0 l4 l5
          ·
            intro x32 h lv l0
            refine rs_aldn wi_403_210 l0 ?_
            refine rs_pure wi_403_211 rfl ?_
            refine rs_topi (v := 125) (by decide) ?_
            refine rs_V wi_403_213 wc_403_521 rfl (dq_isa tf_174_0 wa_15_380) (Nat.le_trans (by decide) hF) (ml_le wm_380 (Nat.le_trans (by decide) hLo)) rfl (sp_380 hw (Nat.le_trans (by decide : 2 ≤ 10 - 1) (Nat.sub_le_sub_right hF 1)) (ml_sub wm_380 (Nat.le_trans (by decide : 42 ≤ 257 - 21) (Nat.sub_le_sub_right hLo 21))) (wp_bind h) (fun r33 h => rs_back0 ?_))
            exact rs_vret wi_403_216 wr_403 (hQ r33 h)
        ·
          have h := wp_neg h q
          exact rs_vret wi_403_144 wr_403 (hQ r22 h)
      ·
        have h := wp_neg h q
        exact rs_vret wi_403_80 wr_403 (hQ p5.2 h)
    refine rs_ifeq (tg := 73) wi_403_27 ⟨by decide, by decide⟩ (fun q => ?_) (fun q => ?_)
    ·
      have h := wp_pos h q
      exact hj73 _ h _ l0 l1 l3
    ·
      have h := wp_neg h q
      refine rs_aldn wi_403_30 l0 ?_
      refine dq_gi wi_403_31 wf_403_471 tf_174_67 ?_
      obtain ⟨v35, e36, h⟩ := wp_lt h
      refine rs_topi e36 ?_
      refine dl_ist wi_403_34 rfl (fun lv l4 t34 => ?_)
      have l0 := t34 _ _ (by decide) (Or.inl rfl) l0
      have l1 := t34 _ _ (by decide) (Or.inr (by decide)) l1
      refine rs_aldn wi_403_36 l0 ?_
      refine rs_V wi_403_37 wc_403_505 rfl (dq_isa tf_174_0 wa_15_381) (Nat.le_trans (by decide) hF) (ml_le wm_381 (Nat.le_trans (by decide) hLo)) rfl (sp_381 hw (Nat.le_trans (by decide : 2 ≤ 10 - 1) (Nat.sub_le_sub_right hF 1)) (ml_sub wm_381 (Nat.le_trans (by decide : 42 ≤ 257 - 20) (Nat.sub_le_sub_right hLo 20))) (wp_bind h) (fun r37 h => rs_back1 ?_))
      refine dl_lst wi_403_40 rfl (fun lv l5 t38 => ?_)
      have l0 := t38 _ _ (by decide) (by decide) (Or.inl rfl) l0
      have l1 := t38 _ _ (by decide) (by decide) (Or.inr (by decide)) l1
      have l4 := t38 _ _ (by decide) (by decide) (Or.inl rfl) l4
      refine rs_aldn wi_403_42 l0 ?_
      refine dq_gi wi_403_43 wf_403_409 tf_174_13 ?_
      refine rs_ifeq (tg := 50) wi_403_46 ⟨by decide, by decide⟩ (fun q => ?_) (fun q => ?_)
      ·
        have h := wp_pos h q
        refine rs_aldn wi_403_50 l0 ?_
        refine rs_lld wi_403_51 l5 ?_
        refine rs_V wi_403_53 wc_403_468 rfl (dq_isa tf_174_0 wa_15_375) (Nat.le_trans (by decide) hF) (ml_le wm_375 (Nat.le_trans (by decide) hLo)) rfl (sp_375 hw (Nat.le_trans (by decide : 0 ≤ 10 - 1) (Nat.sub_le_sub_right hF 1)) (ml_sub wm_375 (Nat.le_trans (by decide : 0 ≤ 257 - 23) (Nat.sub_le_sub_right hLo 23))) (wp_bind h) (fun v39 h => rs_back1 ?_))
        refine dl_istn wi_403_56 rfl (fun lv l3 t40 => ?_)
        have l0 := t40 _ _ (by decide) (Or.inl rfl) l0
        have l1 := t40 _ _ (by decide) (Or.inr (by decide)) l1
        have l4 := t40 _ _ (by decide) (Or.inl rfl) l4
        refine rs_ildn wi_403_57 l3 ?_
        refine rs_ifge (tg := 73) wi_403_58 ⟨by decide, by decide⟩ (fun q => ?_) (fun q => ?_)
        ·
          have h := wp_pos h q
          exact hj73 _ h _ l0 l1 l3
        ·
          have h := wp_neg h q
          refine rs_aldn wi_403_61 l0 ?_
          refine rs_pure wi_403_62 rfl ?_
          refine rs_topi (v := 5) (by decide) ?_
          refine rs_aldn wi_403_63 l0 ?_
          refine dq_gr wi_403_64 wf_403_87 tf_174_9 ?_
          refine rs_ild wi_403_67 l4 ?_
          obtain ⟨g41, h⟩ := wp_gd h
          refine dq_iald wi_403_69 t_179 g41 ?_
          refine rs_V wi_403_70 wc_403_432 rfl (dq_isa tf_174_0 wa_15_97) (Nat.le_trans (by decide) hF) (ml_le wm_97 (Nat.le_trans (by decide) hLo)) rfl (sp_97 hw (Nat.le_trans (by decide : 0 ≤ 10 - 1) (Nat.sub_le_sub_right hF 1)) (ml_sub wm_97 (Nat.le_trans (by decide : 0 ≤ 257 - 22) (Nat.sub_le_sub_right hLo 22))) (wp_bind h) (fun r42 h => rs_back0 ?_))
          exact hj73 _ h _ l0 l1 l3
      ·
        have h := wp_neg h q
        exact rs_vret wi_403_49 wr_403 (hQ r37.2 h)
  ·
    have h := wp_neg h q
    exact rs_vret wi_403_18 wr_403 (hQ r1.2 h)
theorem wa_15_386 : rz_cn 15 (rx_yn (rt_P sc fm) 386).cls = true := (by decide +kernel : rz_cn 15 (rt_yn 386).cls = true)
theorem wa_15_400 : rz_cn 15 (rx_yn (rt_P sc fm) 400).cls = true := (by decide +kernel : rz_cn 15 (rt_yn 400).cls = true)
theorem wa_15_402 : rz_cn 15 (rx_yn (rt_P sc fm) 402).cls = true := (by decide +kernel : rz_cn 15 (rt_yn 402).cls = true)
theorem wa_15_403 : rz_cn 15 (rx_yn (rt_P sc fm) 403).cls = true := (by decide +kernel : rz_cn 15 (rt_yn 403).cls = true)
theorem wc_104_474 : rx_ct (rt_P sc fm) 104 474 = some (0, 100, 1) := (by decide +kernel : rt_ct 104 474 = some (0, 100, 1))
theorem wc_104_480 : rx_ct (rt_P sc fm) 104 480 = some (0, 103, 0) := (by decide +kernel : rt_ct 104 480 = some (0, 103, 0))
theorem wc_104_490 : rx_ct (rt_P sc fm) 104 490 = some (0, 102, 1) := (by decide +kernel : rt_ct 104 490 = some (0, 102, 1))
theorem wc_104_493 : rx_ct (rt_P sc fm) 104 493 = some (0, 386, 0) := (by decide +kernel : rt_ct 104 493 = some (0, 386, 0))
theorem wc_104_496 : rx_ct (rt_P sc fm) 104 496 = some (0, 400, 0) := (by decide +kernel : rt_ct 104 496 = some (0, 400, 0))
theorem wc_104_499 : rx_ct (rt_P sc fm) 104 499 = some (0, 402, 0) := (by decide +kernel : rt_ct 104 499 = some (0, 402, 0))
theorem wc_104_502 : rx_ct (rt_P sc fm) 104 502 = some (0, 403, 0) := (by decide +kernel : rt_ct 104 502 = some (0, 403, 0))
theorem wf_104_218 : rx_ft (rt_P sc fm) 104 218 = some (15, 60) := (by decide +kernel : rt_ft 104 218 = some (15, 60))
theorem wf_104_409 : rx_ft (rt_P sc fm) 104 409 = some (15, 13) := (by decide +kernel : rt_ft 104 409 = some (15, 13))
theorem wf_104_471 : rx_ft (rt_P sc fm) 104 471 = some (15, 67) := (by decide +kernel : rt_ft 104 471 = some (15, 67))
theorem wf_104_84 : rx_ft (rt_P sc fm) 104 84 = some (15, 8) := (by decide +kernel : rt_ft 104 84 = some (15, 8))
theorem wi_104_0 : ri (rt_P sc fm) 104 0 (.aload_n 0) (1) := ri_of (by decide +kernel) rfl
theorem wi_104_1 : ri (rt_P sc fm) 104 1 (.iconst 0) (2) := ri_of (by decide +kernel) rfl
theorem wi_104_10 : ri (rt_P sc fm) 104 10 (.aload_n 0) (11) := ri_of (by decide +kernel) rfl
theorem wi_104_101 : ri (rt_P sc fm) 104 101 (.invokevirtual 490) (104) := ri_of (by decide +kernel) rfl
theorem wi_104_104 : ri (rt_P sc fm) 104 104 (.ifCond .eq 10) (107) := ri_of (by decide +kernel) rfl
theorem wi_104_107 : ri (rt_P sc fm) 104 107 (.aload_n 0) (108) := ri_of (by decide +kernel) rfl
theorem wi_104_108 : ri (rt_P sc fm) 104 108 (.invokevirtual 499) (111) := ri_of (by decide +kernel) rfl
theorem wi_104_11 : ri (rt_P sc fm) 104 11 (.iconst 0) (12) := ri_of (by decide +kernel) rfl
theorem wi_104_111 : ri (rt_P sc fm) 104 111 (.goto (-20)) (114) := ri_of (by decide +kernel) rfl
theorem wi_104_114 : ri (rt_P sc fm) 104 114 (.aload_n 0) (115) := ri_of (by decide +kernel) rfl
theorem wi_104_115 : ri (rt_P sc fm) 104 115 (.getfield 409) (118) := ri_of (by decide +kernel) rfl
theorem wi_104_118 : ri (rt_P sc fm) 104 118 (.ifCond .ne 15) (121) := ri_of (by decide +kernel) rfl
theorem wi_104_12 : ri (rt_P sc fm) 104 12 (.putfield 450) (15) := ri_of (by decide +kernel) rfl
theorem wi_104_121 : ri (rt_P sc fm) 104 121 (.aload_n 0) (122) := ri_of (by decide +kernel) rfl
theorem wi_104_122 : ri (rt_P sc fm) 104 122 (.iconst 2) (123) := ri_of (by decide +kernel) rfl
theorem wi_104_123 : ri (rt_P sc fm) 104 123 (.invokevirtual 474) (126) := ri_of (by decide +kernel) rfl
theorem wi_104_126 : ri (rt_P sc fm) 104 126 (.ifCond .ne 7) (129) := ri_of (by decide +kernel) rfl
theorem wi_104_129 : ri (rt_P sc fm) 104 129 (.aload_n 0) (130) := ri_of (by decide +kernel) rfl
theorem wi_104_130 : ri (rt_P sc fm) 104 130 (.invokevirtual 480) (133) := ri_of (by decide +kernel) rfl
theorem wi_104_133 : ri (rt_P sc fm) 104 133 (.aload_n 0) (134) := ri_of (by decide +kernel) rfl
theorem wi_104_134 : ri (rt_P sc fm) 104 134 (.getfield 409) (137) := ri_of (by decide +kernel) rfl
theorem wi_104_137 : ri (rt_P sc fm) 104 137 (.ifCond .ne 18) (140) := ri_of (by decide +kernel) rfl
theorem wi_104_140 : ri (rt_P sc fm) 104 140 (.aload_n 0) (141) := ri_of (by decide +kernel) rfl
theorem wi_104_141 : ri (rt_P sc fm) 104 141 (.iconst 2) (142) := ri_of (by decide +kernel) rfl
theorem wi_104_142 : ri (rt_P sc fm) 104 142 (.invokevirtual 490) (145) := ri_of (by decide +kernel) rfl
theorem wi_104_145 : ri (rt_P sc fm) 104 145 (.ifCond .eq 10) (148) := ri_of (by decide +kernel) rfl
theorem wi_104_148 : ri (rt_P sc fm) 104 148 (.aload_n 0) (149) := ri_of (by decide +kernel) rfl
theorem wi_104_149 : ri (rt_P sc fm) 104 149 (.invokevirtual 502) (152) := ri_of (by decide +kernel) rfl
theorem wi_104_15 : ri (rt_P sc fm) 104 15 (.aload_n 0) (16) := ri_of (by decide +kernel) rfl
theorem wi_104_152 : ri (rt_P sc fm) 104 152 (.goto (-19)) (155) := ri_of (by decide +kernel) rfl
theorem wi_104_155 : ri (rt_P sc fm) 104 155 (.aload_n 0) (156) := ri_of (by decide +kernel) rfl
theorem wi_104_156 : ri (rt_P sc fm) 104 156 (.getfield 409) (159) := ri_of (by decide +kernel) rfl
theorem wi_104_159 : ri (rt_P sc fm) 104 159 (.ifCond .ne 20) (162) := ri_of (by decide +kernel) rfl
theorem wi_104_16 : ri (rt_P sc fm) 104 16 (.iconst 0) (17) := ri_of (by decide +kernel) rfl
theorem wi_104_162 : ri (rt_P sc fm) 104 162 (.aload_n 0) (163) := ri_of (by decide +kernel) rfl
theorem wi_104_163 : ri (rt_P sc fm) 104 163 (.getfield 84) (166) := ri_of (by decide +kernel) rfl
theorem wi_104_166 : ri (rt_P sc fm) 104 166 (.aload_n 0) (167) := ri_of (by decide +kernel) rfl
theorem wi_104_167 : ri (rt_P sc fm) 104 167 (.getfield 471) (170) := ri_of (by decide +kernel) rfl
theorem wi_104_17 : ri (rt_P sc fm) 104 17 (.putfield 453) (20) := ri_of (by decide +kernel) rfl
theorem wi_104_170 : ri (rt_P sc fm) 104 170 (.iaload) (171) := ri_of (by decide +kernel) rfl
theorem wi_104_171 : ri (rt_P sc fm) 104 171 (.iconst 5) (172) := ri_of (by decide +kernel) rfl
theorem wi_104_172 : ri (rt_P sc fm) 104 172 (.if_icmp .eq 7) (175) := ri_of (by decide +kernel) rfl
theorem wi_104_175 : ri (rt_P sc fm) 104 175 (.aload_n 0) (176) := ri_of (by decide +kernel) rfl
theorem wi_104_176 : ri (rt_P sc fm) 104 176 (.invokevirtual 480) (179) := ri_of (by decide +kernel) rfl
theorem wi_104_179 : ri (rt_P sc fm) 104 179 (.return_) (180) := ri_of (by decide +kernel) rfl
theorem wi_104_2 : ri (rt_P sc fm) 104 2 (.putfield 471) (5) := ri_of (by decide +kernel) rfl
theorem wi_104_20 : ri (rt_P sc fm) 104 20 (.aload_n 0) (21) := ri_of (by decide +kernel) rfl
theorem wi_104_21 : ri (rt_P sc fm) 104 21 (.iconst 0) (22) := ri_of (by decide +kernel) rfl
theorem wi_104_22 : ri (rt_P sc fm) 104 22 (.putfield 456) (25) := ri_of (by decide +kernel) rfl
theorem wi_104_25 : ri (rt_P sc fm) 104 25 (.iconst 0) (26) := ri_of (by decide +kernel) rfl
theorem wi_104_26 : ri (rt_P sc fm) 104 26 (.istore_n 1) (27) := ri_of (by decide +kernel) rfl
theorem wi_104_27 : ri (rt_P sc fm) 104 27 (.iload_n 1) (28) := ri_of (by decide +kernel) rfl
theorem wi_104_28 : ri (rt_P sc fm) 104 28 (.sipush 1218) (31) := ri_of (by decide +kernel) rfl
theorem wi_104_31 : ri (rt_P sc fm) 104 31 (.if_icmp .ge 16) (34) := ri_of (by decide +kernel) rfl
theorem wi_104_34 : ri (rt_P sc fm) 104 34 (.aload_n 0) (35) := ri_of (by decide +kernel) rfl
theorem wi_104_35 : ri (rt_P sc fm) 104 35 (.getfield 218) (38) := ri_of (by decide +kernel) rfl
theorem wi_104_38 : ri (rt_P sc fm) 104 38 (.iload_n 1) (39) := ri_of (by decide +kernel) rfl
theorem wi_104_39 : ri (rt_P sc fm) 104 39 (.iconst 0) (40) := ri_of (by decide +kernel) rfl
theorem wi_104_40 : ri (rt_P sc fm) 104 40 (.iastore) (41) := ri_of (by decide +kernel) rfl
theorem wi_104_41 : ri (rt_P sc fm) 104 41 (.iinc 1 1) (44) := ri_of (by decide +kernel) rfl
theorem wi_104_44 : ri (rt_P sc fm) 104 44 (.goto (-17)) (47) := ri_of (by decide +kernel) rfl
theorem wi_104_47 : ri (rt_P sc fm) 104 47 (.aload_n 0) (48) := ri_of (by decide +kernel) rfl
theorem wi_104_48 : ri (rt_P sc fm) 104 48 (.getfield 409) (51) := ri_of (by decide +kernel) rfl
theorem wi_104_5 : ri (rt_P sc fm) 104 5 (.aload_n 0) (6) := ri_of (by decide +kernel) rfl
theorem wi_104_51 : ri (rt_P sc fm) 104 51 (.ifCond .ne 18) (54) := ri_of (by decide +kernel) rfl
theorem wi_104_54 : ri (rt_P sc fm) 104 54 (.aload_n 0) (55) := ri_of (by decide +kernel) rfl
theorem wi_104_55 : ri (rt_P sc fm) 104 55 (.iconst 0) (56) := ri_of (by decide +kernel) rfl
theorem wi_104_56 : ri (rt_P sc fm) 104 56 (.invokevirtual 490) (59) := ri_of (by decide +kernel) rfl
theorem wi_104_59 : ri (rt_P sc fm) 104 59 (.ifCond .eq 10) (62) := ri_of (by decide +kernel) rfl
theorem wi_104_6 : ri (rt_P sc fm) 104 6 (.iconst 0) (7) := ri_of (by decide +kernel) rfl
theorem wi_104_62 : ri (rt_P sc fm) 104 62 (.aload_n 0) (63) := ri_of (by decide +kernel) rfl
theorem wi_104_63 : ri (rt_P sc fm) 104 63 (.invokevirtual 493) (66) := ri_of (by decide +kernel) rfl
theorem wi_104_66 : ri (rt_P sc fm) 104 66 (.goto (-19)) (69) := ri_of (by decide +kernel) rfl
theorem wi_104_69 : ri (rt_P sc fm) 104 69 (.aload_n 0) (70) := ri_of (by decide +kernel) rfl
theorem wi_104_7 : ri (rt_P sc fm) 104 7 (.putfield 447) (10) := ri_of (by decide +kernel) rfl
theorem wi_104_70 : ri (rt_P sc fm) 104 70 (.getfield 409) (73) := ri_of (by decide +kernel) rfl
theorem wi_104_73 : ri (rt_P sc fm) 104 73 (.ifCond .ne 18) (76) := ri_of (by decide +kernel) rfl
theorem wi_104_76 : ri (rt_P sc fm) 104 76 (.aload_n 0) (77) := ri_of (by decide +kernel) rfl
theorem wi_104_77 : ri (rt_P sc fm) 104 77 (.iconst 1) (78) := ri_of (by decide +kernel) rfl
theorem wi_104_78 : ri (rt_P sc fm) 104 78 (.invokevirtual 490) (81) := ri_of (by decide +kernel) rfl
theorem wi_104_81 : ri (rt_P sc fm) 104 81 (.ifCond .eq 10) (84) := ri_of (by decide +kernel) rfl
theorem wi_104_84 : ri (rt_P sc fm) 104 84 (.aload_n 0) (85) := ri_of (by decide +kernel) rfl
theorem wi_104_85 : ri (rt_P sc fm) 104 85 (.invokevirtual 496) (88) := ri_of (by decide +kernel) rfl
theorem wi_104_88 : ri (rt_P sc fm) 104 88 (.goto (-19)) (91) := ri_of (by decide +kernel) rfl
theorem wi_104_91 : ri (rt_P sc fm) 104 91 (.aload_n 0) (92) := ri_of (by decide +kernel) rfl
theorem wi_104_92 : ri (rt_P sc fm) 104 92 (.getfield 409) (95) := ri_of (by decide +kernel) rfl
theorem wi_104_95 : ri (rt_P sc fm) 104 95 (.ifCond .ne 19) (98) := ri_of (by decide +kernel) rfl
theorem wi_104_98 : ri (rt_P sc fm) 104 98 (.aload_n 0) (99) := ri_of (by decide +kernel) rfl
theorem wi_104_99 : ri (rt_P sc fm) 104 99 (.bipush 6) (101) := ri_of (by decide +kernel) rfl
theorem wm_386 : rx_ml (rt_P sc fm) 386 = 8 := (by decide +kernel : rt_ml 386 = 8)
theorem wm_400 : rx_ml (rt_P sc fm) 400 = 5 := (by decide +kernel : rt_ml 400 = 5)
theorem wm_402 : rx_ml (rt_P sc fm) 402 = 6 := (by decide +kernel : rt_ml 402 = 6)
theorem wm_403 : rx_ml (rt_P sc fm) 403 = 7 := (by decide +kernel : rt_ml 403 = 7)
theorem wp_104_447 : rx_pt (rt_P sc fm) 104 447 = some (15, 15, .int) := (by decide +kernel : rt_pt 104 447 = some (15, 15, .int))
theorem wp_104_450 : rx_pt (rt_P sc fm) 104 450 = some (15, 24, .int) := (by decide +kernel : rt_pt 104 450 = some (15, 24, .int))
theorem wp_104_453 : rx_pt (rt_P sc fm) 104 453 = some (15, 34, .int) := (by decide +kernel : rt_pt 104 453 = some (15, 34, .int))
theorem wp_104_456 : rx_pt (rt_P sc fm) 104 456 = some (15, 37, .int) := (by decide +kernel : rt_pt 104 456 = some (15, 37, .int))
theorem wp_104_471 : rx_pt (rt_P sc fm) 104 471 = some (15, 67, .int) := (by decide +kernel : rt_pt 104 471 = some (15, 67, .int))
theorem wr_104 : rx_rt (rt_P sc fm) 104 = none := (by decide +kernel : rt_rt 104 = none)
/-- MarkHouseModel.readProgram()V -/
def d_104 (n : Nat)  (c : cS) : Option (cS) :=
  lt (pI c 174 67 0) (fun c1 =>
  lt (pI c1 174 15 0) (fun c3 =>
  lt (pI c3 174 24 0) (fun c5 =>
  lt (pI c5 174 34 0) (fun c7 =>
  lt (pI c7 174 37 0) (fun c9 =>
  Option.bind (whl (R := (cS)) (fun s12 : Int32 × cS =>
    if 1218 ≤ s12.1 then
      some (.inr s12.2)
    else
      if ib s12.1 1219 then
      lt (pI s12.2 222 (ix s12.1) 0) (fun c14 =>
      lt (s12.1 + 1 : Int32) (fun v17 =>
      some (.inl (v17, c14))))
      else none) n (0, c9))
  (fun x19 : cS =>
    Option.bind (whl (R := (cS)) (fun s20 : cS =>
      if (s20.1 174 13) = 0 then
        Option.bind (d_102 n 0 s20) (fun r21 =>
        if r21.1 = 0 then
          some (.inr r21.2)
        else
          Option.bind (d_386 n r21.2) (fun r22 =>
          some (.inl r22)))
      else
        some (.inr s20)) n x19)
    (fun x23 : cS =>
      Option.bind (whl (R := (cS)) (fun s24 : cS =>
        if (s24.1 174 13) = 0 then
          Option.bind (d_102 n 1 s24) (fun r25 =>
          if r25.1 = 0 then
            some (.inr r25.2)
          else
            Option.bind (d_400 n r25.2) (fun r26 =>
            some (.inl r26)))
        else
          some (.inr s24)) n x23)
      (fun x27 : cS =>
        Option.bind (whl (R := (cS)) (fun s28 : cS =>
          if (s28.1 174 13) = 0 then
            Option.bind (d_102 n 6 s28) (fun r29 =>
            if r29.1 = 0 then
              some (.inr r29.2)
            else
              Option.bind (d_402 n r29.2) (fun r30 =>
              some (.inl r30)))
          else
            some (.inr s28)) n x27)
        (fun x31 : cS =>
          jn (fun p32 : cS =>
            Option.bind (whl (R := (cS)) (fun s33 : cS =>
              if (s33.1 174 13) = 0 then
                Option.bind (d_102 n 2 s33) (fun r34 =>
                if r34.1 = 0 then
                  some (.inr r34.2)
                else
                  Option.bind (d_403 n r34.2) (fun r35 =>
                  some (.inl r35)))
              else
                some (.inr s33)) n p32)
            (fun x36 : cS =>
              jn (fun p37 : cS =>
                some p37)
              (fun j179 =>
              if (x36.1 174 13) = 0 then
                if ib (x36.1 174 67) 4001 then
                if (x36.1 178 (ix (x36.1 174 67))) = 5 then
                  j179 x36
                else
                  Option.bind (d_103 n x36) (fun r39 =>
                  j179 r39)
                else none
              else
                j179 x36)))
          (fun j133 =>
          if (x31.1 174 13) = 0 then
            Option.bind (d_100 n 2 x31) (fun v40 =>
            if v40 = 0 then
              Option.bind (d_103 n x31) (fun r41 =>
              j133 r41)
            else
              j133 x31)
          else
            j133 x31))))))))))
set_option maxRecDepth 100000 in
set_option maxHeartbeats 4000000 in
theorem sp_104 {F Lo n : Nat}  {c y : cS} {w : cW} {K : cS → Prop} {Q : ((Option Value) ⊕ String) → List va_E → Prop} (hw : rOK fm w) (hF : 11 ≤ F) (hLo : 283 ≤ Lo)  (h : wp (d_104 n  c) K) (hQ : ∀ r, K r → Q (.inl none) (hq false r y w)) : rs (rt_P sc fm) 104 F Lo 0 [(0, .ref 174)] [] (hq false c y w) Q := by
  unfold d_104 at h
  obtain ⟨lv, elv⟩ : ∃ lv : rx_L, lv = [(0, .ref 174)] := ⟨_, rfl⟩
  rw [← elv]
  have l0 : rx_ld lv 0 = some (.ref 174) := by rw [elv]; rfl
  refine rs_aldn wi_104_0 l0 ?_
  refine rs_pure wi_104_1 rfl ?_
  refine rs_topi (v := 0) (by decide) ?_
  obtain ⟨c1, e2, h⟩ := wp_lt h
  refine dq_pi wi_104_2 wp_104_471 tf_174_67 rfl rfl e2 ?_
  refine rs_aldn wi_104_5 l0 ?_
  refine rs_pure wi_104_6 rfl ?_
  refine rs_topi (v := 0) (by decide) ?_
  obtain ⟨c3, e4, h⟩ := wp_lt h
  refine dq_pi wi_104_7 wp_104_447 tf_174_15 rfl rfl e4 ?_
  refine rs_aldn wi_104_10 l0 ?_
  refine rs_pure wi_104_11 rfl ?_
  refine rs_topi (v := 0) (by decide) ?_
  obtain ⟨c5, e6, h⟩ := wp_lt h
  refine dq_pi wi_104_12 wp_104_450 tf_174_24 rfl rfl e6 ?_
  refine rs_aldn wi_104_15 l0 ?_
  refine rs_pure wi_104_16 rfl ?_
  refine rs_topi (v := 0) (by decide) ?_
  obtain ⟨c7, e8, h⟩ := wp_lt h
  refine dq_pi wi_104_17 wp_104_453 tf_174_34 rfl rfl e8 ?_
  refine rs_aldn wi_104_20 l0 ?_
  refine rs_pure wi_104_21 rfl ?_
  refine rs_topi (v := 0) (by decide) ?_
  obtain ⟨c9, e10, h⟩ := wp_lt h
  refine dq_pi wi_104_22 wp_104_456 tf_174_37 rfl rfl e10 ?_
  refine rs_pure wi_104_25 rfl ?_
  refine rs_topi (v := 0) (by decide) ?_
  refine dl_istn wi_104_26 rfl (fun lv l1 t11 => ?_)
  have l0 := t11 _ _ (by decide) (Or.inl rfl) l0
  refine whl_ex (A := fun s12 : Int32 × cS => ∀ lv, rx_ld lv 0 = some (.ref 174) → rx_ld lv 1 = some (.int s12.1) → rs (rt_P sc fm) 104 F Lo 27 lv [] (hq false s12.2 y w) Q) (B := (fun x19 : cS => ∀ lv, rx_ld lv 0 = some (.ref 174) → rs (rt_P sc fm) 104 F Lo 47 lv [] (hq false x19 y w) Q)) ?_ ?_ _ _ (wp_bind h) _ l0 l1
  · intro s12 h lv l0 l1
    refine rs_ildn wi_104_27 l1 ?_
    refine rs_pure wi_104_28 rfl ?_
    refine rs_topi (v := 1218) (by decide) ?_
    refine rs_icge (tg := 47) wi_104_31 ⟨by decide, by decide⟩ (fun q => ?_) (fun q => ?_)
    ·
      have h := wp_pos h q
      exact h _ l0
    ·
      have h := wp_neg h q
      refine rs_aldn wi_104_34 l0 ?_
      refine dq_gr wi_104_35 wf_104_218 tf_174_60 ?_
      refine rs_ildn wi_104_38 l1 ?_
      refine rs_pure wi_104_39 rfl ?_
      refine rs_topi (v := 0) (by decide) ?_
      obtain ⟨g13, h⟩ := wp_gd h
      obtain ⟨c14, e15, h⟩ := wp_lt h
      refine dq_iast wi_104_40 t_222 g13 e15 ?_
      obtain ⟨v17, e18, h⟩ := wp_lt h
      refine dl_inc wi_104_41 l1 rfl e18 (fun lv l1 t16 => ?_)
      have l0 := t16 _ _ (by decide) (Or.inl rfl) l0
      refine rs_goto (tg := 27) wi_104_44 ⟨by decide, by decide⟩ ?_
      exact h _ l0 l1
  ·
    intro x19 h lv l0
    refine whl_ex (A := fun s20 : cS => ∀ lv, rx_ld lv 0 = some (.ref 174) → rs (rt_P sc fm) 104 F Lo 47 lv [] (hq false s20 y w) Q) (B := (fun x23 : cS => ∀ lv, rx_ld lv 0 = some (.ref 174) → rs (rt_P sc fm) 104 F Lo 69 lv [] (hq false x23 y w) Q)) ?_ ?_ _ _ (wp_bind h) _ l0
    · intro s20 h lv l0
      refine rs_aldn wi_104_47 l0 ?_
      refine dq_gi wi_104_48 wf_104_409 tf_174_13 ?_
      refine rs_ifne (tg := 69) wi_104_51 ⟨by decide, by decide⟩ (fun q => ?_) (fun q => ?_)
      ·
        have h := wp_neg h q
        exact h _ l0
      ·
        have h := wp_pos h q
        refine rs_aldn wi_104_54 l0 ?_
        refine rs_pure wi_104_55 rfl ?_
        refine rs_topi (v := 0) (by decide) ?_
        refine rs_V wi_104_56 wc_104_490 rfl (dq_isa tf_174_0 wa_15_102) (Nat.le_trans (by decide) hF) (ml_le wm_102 (Nat.le_trans (by decide) hLo)) rfl (sp_102 hw (Nat.le_trans (by decide : 1 ≤ 11 - 1) (Nat.sub_le_sub_right hF 1)) (ml_sub wm_102 (Nat.le_trans (by decide : 21 ≤ 283 - 21) (Nat.sub_le_sub_right hLo 21))) (wp_bind h) (fun r21 h => rs_back1 ?_))
        refine rs_ifeq (tg := 69) wi_104_59 ⟨by decide, by decide⟩ (fun q => ?_) (fun q => ?_)
        ·
          have h := wp_pos h q
          exact h _ l0
        ·
          have h := wp_neg h q
          refine rs_aldn wi_104_62 l0 ?_
          refine rs_V wi_104_63 wc_104_493 rfl (dq_isa tf_174_0 wa_15_386) (Nat.le_trans (by decide) hF) (ml_le wm_386 (Nat.le_trans (by decide) hLo)) rfl (sp_386 hw (Nat.le_trans (by decide : 4 ≤ 11 - 1) (Nat.sub_le_sub_right hF 1)) (ml_sub wm_386 (Nat.le_trans (by decide : 102 ≤ 283 - 27) (Nat.sub_le_sub_right hLo 27))) (wp_bind h) (fun r22 h => rs_back0 ?_))
          refine rs_goto (tg := 47) wi_104_66 ⟨by decide, by decide⟩ ?_
          exact h _ l0
    ·
      intro x23 h lv l0
      refine whl_ex (A := fun s24 : cS => ∀ lv, rx_ld lv 0 = some (.ref 174) → rs (rt_P sc fm) 104 F Lo 69 lv [] (hq false s24 y w) Q) (B := (fun x27 : cS => ∀ lv, rx_ld lv 0 = some (.ref 174) → rs (rt_P sc fm) 104 F Lo 91 lv [] (hq false x27 y w) Q)) ?_ ?_ _ _ (wp_bind h) _ l0
      · intro s24 h lv l0
        refine rs_aldn wi_104_69 l0 ?_
        refine dq_gi wi_104_70 wf_104_409 tf_174_13 ?_
        refine rs_ifne (tg := 91) wi_104_73 ⟨by decide, by decide⟩ (fun q => ?_) (fun q => ?_)
        ·
          have h := wp_neg h q
          exact h _ l0
        ·
          have h := wp_pos h q
          refine rs_aldn wi_104_76 l0 ?_
          refine rs_pure wi_104_77 rfl ?_
          refine rs_topi (v := 1) (by decide) ?_
          refine rs_V wi_104_78 wc_104_490 rfl (dq_isa tf_174_0 wa_15_102) (Nat.le_trans (by decide) hF) (ml_le wm_102 (Nat.le_trans (by decide) hLo)) rfl (sp_102 hw (Nat.le_trans (by decide : 1 ≤ 11 - 1) (Nat.sub_le_sub_right hF 1)) (ml_sub wm_102 (Nat.le_trans (by decide : 21 ≤ 283 - 21) (Nat.sub_le_sub_right hLo 21))) (wp_bind h) (fun r25 h => rs_back1 ?_))
          refine rs_ifeq (tg := 91) wi_104_81 ⟨by decide, by decide⟩ (fun q => ?_) (fun q => ?_)
          ·
            have h := wp_pos h q
            exact h _ l0
          ·
            have h := wp_neg h q
            refine rs_aldn wi_104_84 l0 ?_
            refine rs_V wi_104_85 wc_104_496 rfl (dq_isa tf_174_0 wa_15_400) (Nat.le_trans (by decide) hF) (ml_le wm_400 (Nat.le_trans (by decide) hLo)) rfl (sp_400 hw (Nat.le_trans (by decide : 6 ≤ 11 - 1) (Nat.sub_le_sub_right hF 1)) (ml_sub wm_400 (Nat.le_trans (by decide : 154 ≤ 283 - 24) (Nat.sub_le_sub_right hLo 24))) (wp_bind h) (fun r26 h => rs_back0 ?_))
            refine rs_goto (tg := 69) wi_104_88 ⟨by decide, by decide⟩ ?_
            exact h _ l0
      ·
        intro x27 h lv l0
        refine whl_ex (A := fun s28 : cS => ∀ lv, rx_ld lv 0 = some (.ref 174) → rs (rt_P sc fm) 104 F Lo 91 lv [] (hq false s28 y w) Q) (B := (fun x31 : cS => ∀ lv, rx_ld lv 0 = some (.ref 174) → rs (rt_P sc fm) 104 F Lo 114 lv [] (hq false x31 y w) Q)) ?_ ?_ _ _ (wp_bind h) _ l0
        · intro s28 h lv l0
          refine rs_aldn wi_104_91 l0 ?_
          refine dq_gi wi_104_92 wf_104_409 tf_174_13 ?_
          refine rs_ifne (tg := 114) wi_104_95 ⟨by decide, by decide⟩ (fun q => ?_) (fun q => ?_)
          ·
            have h := wp_neg h q
            exact h _ l0
          ·
            have h := wp_pos h q
            refine rs_aldn wi_104_98 l0 ?_
            refine rs_pure wi_104_99 rfl ?_
            refine rs_topi (v := 6) (by decide) ?_
            refine rs_V wi_104_101 wc_104_490 rfl (dq_isa tf_174_0 wa_15_102) (Nat.le_trans (by decide) hF) (ml_le wm_102 (Nat.le_trans (by decide) hLo)) rfl (sp_102 hw (Nat.le_trans (by decide : 1 ≤ 11 - 1) (Nat.sub_le_sub_right hF 1)) (ml_sub wm_102 (Nat.le_trans (by decide : 21 ≤ 283 - 21) (Nat.sub_le_sub_right hLo 21))) (wp_bind h) (fun r29 h => rs_back1 ?_))
            refine rs_ifeq (tg := 114) wi_104_104 ⟨by decide, by decide⟩ (fun q => ?_) (fun q => ?_)
            ·
              have h := wp_pos h q
              exact h _ l0
            ·
              have h := wp_neg h q
              refine rs_aldn wi_104_107 l0 ?_
              refine rs_V wi_104_108 wc_104_499 rfl (dq_isa tf_174_0 wa_15_402) (Nat.le_trans (by decide) hF) (ml_le wm_402 (Nat.le_trans (by decide) hLo)) rfl (sp_402 hw (Nat.le_trans (by decide : 6 ≤ 11 - 1) (Nat.sub_le_sub_right hF 1)) (ml_sub wm_402 (Nat.le_trans (by decide : 154 ≤ 283 - 25) (Nat.sub_le_sub_right hLo 25))) (wp_bind h) (fun r30 h => rs_back0 ?_))
              refine rs_goto (tg := 91) wi_104_111 ⟨by decide, by decide⟩ ?_
              exact h _ l0
        ·
          intro x31 h lv l0
          refine rs_aldn wi_104_114 l0 ?_
          refine dq_gi wi_104_115 wf_104_409 tf_174_13 ?_
          refine wp_jn (B := fun p32 : cS => ∀ lv, rx_ld lv 0 = some (.ref 174) → rs (rt_P sc fm) 104 F Lo 133 lv [] (hq false p32 y w) Q) h (fun p32 h lv l0 => ?_) (fun j133 hj133 h => ?_)
          ·
            refine whl_ex (A := fun s33 : cS => ∀ lv, rx_ld lv 0 = some (.ref 174) → rs (rt_P sc fm) 104 F Lo 133 lv [] (hq false s33 y w) Q) (B := (fun x36 : cS => ∀ lv, rx_ld lv 0 = some (.ref 174) → rs (rt_P sc fm) 104 F Lo 155 lv [] (hq false x36 y w) Q)) ?_ ?_ _ _ (wp_bind h) _ l0
            · intro s33 h lv l0
              refine rs_aldn wi_104_133 l0 ?_
              refine dq_gi wi_104_134 wf_104_409 tf_174_13 ?_
              refine rs_ifne (tg := 155) wi_104_137 ⟨by decide, by decide⟩ (fun q => ?_) (fun q => ?_)
              ·
                have h := wp_neg h q
                exact h _ l0
              ·
                have h := wp_pos h q
                refine rs_aldn wi_104_140 l0 ?_
                refine rs_pure wi_104_141 rfl ?_
                refine rs_topi (v := 2) (by decide) ?_
                refine rs_V wi_104_142 wc_104_490 rfl (dq_isa tf_174_0 wa_15_102) (Nat.le_trans (by decide) hF) (ml_le wm_102 (Nat.le_trans (by decide) hLo)) rfl (sp_102 hw (Nat.le_trans (by decide : 1 ≤ 11 - 1) (Nat.sub_le_sub_right hF 1)) (ml_sub wm_102 (Nat.le_trans (by decide : 21 ≤ 283 - 21) (Nat.sub_le_sub_right hLo 21))) (wp_bind h) (fun r34 h => rs_back1 ?_))
                refine rs_ifeq (tg := 155) wi_104_145 ⟨by decide, by decide⟩ (fun q => ?_) (fun q => ?_)
                ·
                  have h := wp_pos h q
                  exact h _ l0
                ·
                  have h := wp_neg h q
                  refine rs_aldn wi_104_148 l0 ?_
                  refine rs_V wi_104_149 wc_104_502 rfl (dq_isa tf_174_0 wa_15_403) (Nat.le_trans (by decide) hF) (ml_le wm_403 (Nat.le_trans (by decide) hLo)) rfl (sp_403 hw (Nat.le_trans (by decide : 10 ≤ 11 - 1) (Nat.sub_le_sub_right hF 1)) (ml_sub wm_403 (Nat.le_trans (by decide : 257 ≤ 283 - 26) (Nat.sub_le_sub_right hLo 26))) (wp_bind h) (fun r35 h => rs_back0 ?_))
                  refine rs_goto (tg := 133) wi_104_152 ⟨by decide, by decide⟩ ?_
                  exact h _ l0
            ·
              intro x36 h lv l0
              refine rs_aldn wi_104_155 l0 ?_
              refine dq_gi wi_104_156 wf_104_409 tf_174_13 ?_
              refine wp_jn (B := fun p37 : cS => ∀ lv, rs (rt_P sc fm) 104 F Lo 179 lv [] (hq false p37 y w) Q) h (fun p37 h lv => ?_) (fun j179 hj179 h => ?_)
              ·
                exact rs_vret wi_104_179 wr_104 (hQ p37 h)
              refine rs_ifne (tg := 179) wi_104_159 ⟨by decide, by decide⟩ (fun q => ?_) (fun q => ?_)
              ·
                have h := wp_neg h q
                exact hj179 _ h _
              ·
                have h := wp_pos h q
                refine rs_aldn wi_104_162 l0 ?_
                refine dq_gr wi_104_163 wf_104_84 tf_174_8 ?_
                refine rs_aldn wi_104_166 l0 ?_
                refine dq_gi wi_104_167 wf_104_471 tf_174_67 ?_
                obtain ⟨g38, h⟩ := wp_gd h
                refine dq_iald wi_104_170 t_178 g38 ?_
                refine rs_pure wi_104_171 rfl ?_
                refine rs_topi (v := 5) (by decide) ?_
                refine rs_iceq (tg := 179) wi_104_172 ⟨by decide, by decide⟩ (fun q => ?_) (fun q => ?_)
                ·
                  have h := wp_pos h q
                  exact hj179 _ h _
                ·
                  have h := wp_neg h q
                  refine rs_aldn wi_104_175 l0 ?_
                  refine rs_V wi_104_176 wc_104_480 rfl (dq_isa tf_174_0 wa_15_103) (Nat.le_trans (by decide) hF) (ml_le wm_103 (Nat.le_trans (by decide) hLo)) rfl (sp_103 hw (Nat.le_trans (by decide : 1 ≤ 11 - 1) (Nat.sub_le_sub_right hF 1)) (ml_sub wm_103 (Nat.le_trans (by decide : 22 ≤ 283 - 20) (Nat.sub_le_sub_right hLo 20))) (wp_bind h) (fun r39 h => rs_back0 ?_))
                  exact hj179 _ h _
          refine rs_ifne (tg := 133) wi_104_118 ⟨by decide, by decide⟩ (fun q => ?_) (fun q => ?_)
          ·
            have h := wp_neg h q
            exact hj133 _ h _ l0
          ·
            have h := wp_pos h q
            refine rs_aldn wi_104_121 l0 ?_
            refine rs_pure wi_104_122 rfl ?_
            refine rs_topi (v := 2) (by decide) ?_
            refine rs_V wi_104_123 wc_104_474 rfl (dq_isa tf_174_0 wa_15_100) (Nat.le_trans (by decide) hF) (ml_le wm_100 (Nat.le_trans (by decide) hLo)) rfl (sp_100 hw (Nat.le_trans (by decide : 0 ≤ 11 - 1) (Nat.sub_le_sub_right hF 1)) (ml_sub wm_100 (Nat.le_trans (by decide : 0 ≤ 283 - 21) (Nat.sub_le_sub_right hLo 21))) (wp_bind h) (fun v40 h => rs_back1 ?_))
            refine rs_ifne (tg := 133) wi_104_126 ⟨by decide, by decide⟩ (fun q => ?_) (fun q => ?_)
            ·
              have h := wp_neg h q
              exact hj133 _ h _ l0
            ·
              have h := wp_pos h q
              refine rs_aldn wi_104_129 l0 ?_
              refine rs_V wi_104_130 wc_104_480 rfl (dq_isa tf_174_0 wa_15_103) (Nat.le_trans (by decide) hF) (ml_le wm_103 (Nat.le_trans (by decide) hLo)) rfl (sp_103 hw (Nat.le_trans (by decide : 1 ≤ 11 - 1) (Nat.sub_le_sub_right hF 1)) (ml_sub wm_103 (Nat.le_trans (by decide : 22 ≤ 283 - 20) (Nat.sub_le_sub_right hLo 20))) (wp_bind h) (fun r41 h => rs_back0 ?_))
              exact hj133 _ h _ l0
theorem wf_105_161 : rx_ft (rt_P sc fm) 105 161 = some (15, 41) := (by decide +kernel : rt_ft 105 161 = some (15, 41))
theorem wf_105_456 : rx_ft (rt_P sc fm) 105 456 = some (15, 37) := (by decide +kernel : rt_ft 105 456 = some (15, 37))
theorem wi_105_0 : ri (rt_P sc fm) 105 0 (.iload_n 1) (1) := ri_of (by decide +kernel) rfl
theorem wi_105_1 : ri (rt_P sc fm) 105 1 (.ifCond .lt 34) (4) := ri_of (by decide +kernel) rfl
theorem wi_105_12 : ri (rt_P sc fm) 105 12 (.if_icmp .ge 23) (15) := ri_of (by decide +kernel) rfl
theorem wi_105_15 : ri (rt_P sc fm) 105 15 (.iload_n 1) (16) := ri_of (by decide +kernel) rfl
theorem wi_105_16 : ri (rt_P sc fm) 105 16 (.bipush 8) (18) := ri_of (by decide +kernel) rfl
theorem wi_105_18 : ri (rt_P sc fm) 105 18 (.irem) (19) := ri_of (by decide +kernel) rfl
theorem wi_105_19 : ri (rt_P sc fm) 105 19 (.aload_n 0) (20) := ri_of (by decide +kernel) rfl
theorem wi_105_20 : ri (rt_P sc fm) 105 20 (.getfield 161) (23) := ri_of (by decide +kernel) rfl
theorem wi_105_23 : ri (rt_P sc fm) 105 23 (.iload_n 1) (24) := ri_of (by decide +kernel) rfl
theorem wi_105_24 : ri (rt_P sc fm) 105 24 (.bipush 8) (26) := ri_of (by decide +kernel) rfl
theorem wi_105_26 : ri (rt_P sc fm) 105 26 (.idiv) (27) := ri_of (by decide +kernel) rfl
theorem wi_105_27 : ri (rt_P sc fm) 105 27 (.iaload) (28) := ri_of (by decide +kernel) rfl
theorem wi_105_28 : ri (rt_P sc fm) 105 28 (.if_icmp .ge 7) (31) := ri_of (by decide +kernel) rfl
theorem wi_105_31 : ri (rt_P sc fm) 105 31 (.iconst 1) (32) := ri_of (by decide +kernel) rfl
theorem wi_105_32 : ri (rt_P sc fm) 105 32 (.goto 4) (35) := ri_of (by decide +kernel) rfl
theorem wi_105_35 : ri (rt_P sc fm) 105 35 (.iconst 0) (36) := ri_of (by decide +kernel) rfl
theorem wi_105_36 : ri (rt_P sc fm) 105 36 (.ireturn) (37) := ri_of (by decide +kernel) rfl
theorem wi_105_4 : ri (rt_P sc fm) 105 4 (.iload_n 1) (5) := ri_of (by decide +kernel) rfl
theorem wi_105_5 : ri (rt_P sc fm) 105 5 (.bipush 8) (7) := ri_of (by decide +kernel) rfl
theorem wi_105_7 : ri (rt_P sc fm) 105 7 (.idiv) (8) := ri_of (by decide +kernel) rfl
theorem wi_105_8 : ri (rt_P sc fm) 105 8 (.aload_n 0) (9) := ri_of (by decide +kernel) rfl
theorem wi_105_9 : ri (rt_P sc fm) 105 9 (.getfield 456) (12) := ri_of (by decide +kernel) rfl
theorem wr_105 : rx_rt (rt_P sc fm) 105 = (some FieldType.boolean) := (by decide +kernel : rt_rt 105 = (some FieldType.boolean))
/-- MarkHouseModel.isMethod(I)Z -/
def d_105 (n : Nat) (a1 : Int32) (c : cS) : Option (Int32) :=
  jn (fun p1 : Int32 =>
    if nb p1 then
    some p1
    else none)
  (fun j36 =>
  jn (fun p3 : Unit =>
    j36 0)
  (fun j35 =>
  if a1 < 0 then
    j35 ()
  else
    if (c.1 174 37) ≤ (a1 / 8) then
      j35 ()
    else
      if ib (a1 / 8) 12 then
      if (c.1 203 (ix (a1 / 8))) ≤ (a1 - a1 / 8 * 8) then
        j35 ()
      else
        j36 1
      else none))
set_option maxRecDepth 100000 in
set_option maxHeartbeats 4000000 in
theorem sp_105 {F Lo n : Nat} {a1 : Int32} {c y : cS} {w : cW} {K : Int32 → Prop} {Q : ((Option Value) ⊕ String) → List va_E → Prop} (hw : rOK fm w) (hF : 0 ≤ F) (hLo : 0 ≤ Lo)  (h : wp (d_105 n a1 c) K) (hQ : ∀ r, K r → Q (.inl (some (.int r))) (hq false c y w)) : rs (rt_P sc fm) 105 F Lo 0 [(0, .ref 174), (1, .int a1)] [] (hq false c y w) Q := by
  unfold d_105 at h
  obtain ⟨lv, elv⟩ : ∃ lv : rx_L, lv = [(0, .ref 174), (1, .int a1)] := ⟨_, rfl⟩
  rw [← elv]
  have l0 : rx_ld lv 0 = some (.ref 174) := by rw [elv]; rfl
  have l1 : rx_ld lv 1 = some (.int a1) := by rw [elv]; rfl
  refine rs_ildn wi_105_0 l1 ?_
  refine wp_jn (B := fun p1 : Int32 => ∀ lv, rs (rt_P sc fm) 105 F Lo 36 lv [.int p1] (hq false c y w) Q) h (fun p1 h lv => ?_) (fun j36 hj36 h => ?_)
  ·
    obtain ⟨g2, h⟩ := wp_gd h
    exact rs_iret wi_105_36 wr_105 (nb_n g2) (hQ p1 h)
  refine wp_jn (B := fun p3 : Unit => ∀ lv, rs (rt_P sc fm) 105 F Lo 35 lv [] (hq false c y w) Q) h (fun p3 h lv => ?_) (fun j35 hj35 h => ?_)
  ·
    refine rs_pure wi_105_35 rfl ?_
    refine rs_topi (v := 0) (by decide) ?_
    exact hj36 _ h _
  refine rs_iflt (tg := 35) wi_105_1 ⟨by decide, by decide⟩ (fun q => ?_) (fun q => ?_)
  ·
    have h := wp_pos h q
    exact hj35 _ h _
  ·
    have h := wp_neg h q
    refine rs_ildn wi_105_4 l1 ?_
    refine rs_pure wi_105_5 rfl ?_
    refine rs_topi (v := 8) (by decide) ?_
    refine dl_idiv wi_105_7 (by decide) ?_
    refine rs_aldn wi_105_8 l0 ?_
    refine dq_gi wi_105_9 wf_105_456 tf_174_37 ?_
    refine rs_icge (tg := 35) wi_105_12 ⟨by decide, by decide⟩ (fun q => ?_) (fun q => ?_)
    ·
      have h := wp_pos h q
      exact hj35 _ h _
    ·
      have h := wp_neg h q
      refine rs_ildn wi_105_15 l1 ?_
      refine rs_pure wi_105_16 rfl ?_
      refine rs_topi (v := 8) (by decide) ?_
      refine dl_irem wi_105_18 (by decide) ?_
      refine rs_aldn wi_105_19 l0 ?_
      refine dq_gr wi_105_20 wf_105_161 tf_174_41 ?_
      refine rs_ildn wi_105_23 l1 ?_
      refine rs_pure wi_105_24 rfl ?_
      refine rs_topi (v := 8) (by decide) ?_
      refine dl_idiv wi_105_26 (by decide) ?_
      obtain ⟨g4, h⟩ := wp_gd h
      refine dq_iald wi_105_27 t_203 g4 ?_
      refine rs_icge (tg := 35) wi_105_28 ⟨by decide, by decide⟩ (fun q => ?_) (fun q => ?_)
      ·
        have h := wp_pos h q
        exact hj35 _ h _
      ·
        have h := wp_neg h q
        refine rs_pure wi_105_31 rfl ?_
        refine rs_topi (v := 1) (by decide) ?_
        refine rs_goto (tg := 36) wi_105_32 ⟨by decide, by decide⟩ ?_
        exact hj36 _ h _
theorem tf_174_102 : fo false 174 15 102 (.int 0) := ⟨_, rfl, rfl, by decide, by decide⟩
theorem tf_174_106 : fo false 174 15 106 (.int 0) := ⟨_, rfl, rfl, by decide, by decide⟩
theorem tf_174_111 : fo false 174 15 111 (.int 0) := ⟨_, rfl, rfl, by decide, by decide⟩
theorem tf_174_130 : fo false 174 15 130 (.int 0) := ⟨_, rfl, rfl, by decide, by decide⟩
theorem tf_174_97 : fo false 174 15 97 (.int (-1)) := ⟨_, rfl, rfl, by decide, by decide⟩
theorem wi_133_0 : ri (rt_P sc fm) 133 0 (.aload_n 0) (1) := ri_of (by decide +kernel) rfl
theorem wi_133_1 : ri (rt_P sc fm) 133 1 (.iconst 0) (2) := ri_of (by decide +kernel) rfl
theorem wi_133_10 : ri (rt_P sc fm) 133 10 (.aload_n 0) (11) := ri_of (by decide +kernel) rfl
theorem wi_133_11 : ri (rt_P sc fm) 133 11 (.iconst (-1)) (12) := ri_of (by decide +kernel) rfl
theorem wi_133_12 : ri (rt_P sc fm) 133 12 (.putfield 292) (15) := ri_of (by decide +kernel) rfl
theorem wi_133_15 : ri (rt_P sc fm) 133 15 (.aload_n 0) (16) := ri_of (by decide +kernel) rfl
theorem wi_133_16 : ri (rt_P sc fm) 133 16 (.iconst 0) (17) := ri_of (by decide +kernel) rfl
theorem wi_133_17 : ri (rt_P sc fm) 133 17 (.putfield 874) (20) := ri_of (by decide +kernel) rfl
theorem wi_133_2 : ri (rt_P sc fm) 133 2 (.putfield 894) (5) := ri_of (by decide +kernel) rfl
theorem wi_133_20 : ri (rt_P sc fm) 133 20 (.aload_n 0) (21) := ri_of (by decide +kernel) rfl
theorem wi_133_21 : ri (rt_P sc fm) 133 21 (.iconst 0) (22) := ri_of (by decide +kernel) rfl
theorem wi_133_22 : ri (rt_P sc fm) 133 22 (.putfield 900) (25) := ri_of (by decide +kernel) rfl
theorem wi_133_25 : ri (rt_P sc fm) 133 25 (.return_) (26) := ri_of (by decide +kernel) rfl
theorem wi_133_5 : ri (rt_P sc fm) 133 5 (.aload_n 0) (6) := ri_of (by decide +kernel) rfl
theorem wi_133_6 : ri (rt_P sc fm) 133 6 (.iconst 0) (7) := ri_of (by decide +kernel) rfl
theorem wi_133_7 : ri (rt_P sc fm) 133 7 (.putfield 897) (10) := ri_of (by decide +kernel) rfl
theorem wp_133_292 : rx_pt (rt_P sc fm) 133 292 = some (15, 97, .int) := (by decide +kernel : rt_pt 133 292 = some (15, 97, .int))
theorem wp_133_874 : rx_pt (rt_P sc fm) 133 874 = some (15, 102, .int) := (by decide +kernel : rt_pt 133 874 = some (15, 102, .int))
theorem wp_133_894 : rx_pt (rt_P sc fm) 133 894 = some (15, 106, .boolean) := (by decide +kernel : rt_pt 133 894 = some (15, 106, .boolean))
theorem wp_133_897 : rx_pt (rt_P sc fm) 133 897 = some (15, 111, .int) := (by decide +kernel : rt_pt 133 897 = some (15, 111, .int))
theorem wp_133_900 : rx_pt (rt_P sc fm) 133 900 = some (15, 130, .boolean) := (by decide +kernel : rt_pt 133 900 = some (15, 130, .boolean))
theorem wr_133 : rx_rt (rt_P sc fm) 133 = none := (by decide +kernel : rt_rt 133 = none)
/-- MarkHouseModel.changed()V -/
def d_133 (n : Nat)  (c : cS) : Option (cS) :=
  lt (pI c 174 106 0) (fun c1 =>
  lt (pI c1 174 111 0) (fun c3 =>
  lt (pI c3 174 97 (-1)) (fun c5 =>
  lt (pI c5 174 102 0) (fun c7 =>
  lt (pI c7 174 130 0) (fun c9 =>
  some c9)))))
set_option maxRecDepth 100000 in
set_option maxHeartbeats 4000000 in
theorem sp_133 {F Lo n : Nat}  {c y : cS} {w : cW} {K : cS → Prop} {Q : ((Option Value) ⊕ String) → List va_E → Prop} (hw : rOK fm w) (hF : 0 ≤ F) (hLo : 0 ≤ Lo)  (h : wp (d_133 n  c) K) (hQ : ∀ r, K r → Q (.inl none) (hq false r y w)) : rs (rt_P sc fm) 133 F Lo 0 [(0, .ref 174)] [] (hq false c y w) Q := by
  unfold d_133 at h
  obtain ⟨lv, elv⟩ : ∃ lv : rx_L, lv = [(0, .ref 174)] := ⟨_, rfl⟩
  rw [← elv]
  have l0 : rx_ld lv 0 = some (.ref 174) := by rw [elv]; rfl
  refine rs_aldn wi_133_0 l0 ?_
  refine rs_pure wi_133_1 rfl ?_
  refine rs_topi (v := 0) (by decide) ?_
  obtain ⟨c1, e2, h⟩ := wp_lt h
  refine dq_pi wi_133_2 wp_133_894 tf_174_106 (nb_n (by decide)) (nb_f (by decide)) e2 ?_
  refine rs_aldn wi_133_5 l0 ?_
  refine rs_pure wi_133_6 rfl ?_
  refine rs_topi (v := 0) (by decide) ?_
  obtain ⟨c3, e4, h⟩ := wp_lt h
  refine dq_pi wi_133_7 wp_133_897 tf_174_111 rfl rfl e4 ?_
  refine rs_aldn wi_133_10 l0 ?_
  refine rs_pure wi_133_11 rfl ?_
  refine rs_topi (v := (-1)) (by decide) ?_
  obtain ⟨c5, e6, h⟩ := wp_lt h
  refine dq_pi wi_133_12 wp_133_292 tf_174_97 rfl rfl e6 ?_
  refine rs_aldn wi_133_15 l0 ?_
  refine rs_pure wi_133_16 rfl ?_
  refine rs_topi (v := 0) (by decide) ?_
  obtain ⟨c7, e8, h⟩ := wp_lt h
  refine dq_pi wi_133_17 wp_133_874 tf_174_102 rfl rfl e8 ?_
  refine rs_aldn wi_133_20 l0 ?_
  refine rs_pure wi_133_21 rfl ?_
  refine rs_topi (v := 0) (by decide) ?_
  obtain ⟨c9, e10, h⟩ := wp_lt h
  refine dq_pi wi_133_22 wp_133_900 tf_174_130 (nb_n (by decide)) (nb_f (by decide)) e10 ?_
  exact rs_vret wi_133_25 wr_133 (hQ c9 h)
theorem wf_414_155 : rx_ft (rt_P sc fm) 414 155 = some (15, 39) := (by decide +kernel : rt_ft 414 155 = some (15, 39))
theorem wf_414_161 : rx_ft (rt_P sc fm) 414 161 = some (15, 41) := (by decide +kernel : rt_ft 414 161 = some (15, 41))
theorem wf_414_170 : rx_ft (rt_P sc fm) 414 170 = some (15, 44) := (by decide +kernel : rt_ft 414 170 = some (15, 44))
theorem wi_414_0 : ri (rt_P sc fm) 414 0 (.iload_n 1) (1) := ri_of (by decide +kernel) rfl
theorem wi_414_1 : ri (rt_P sc fm) 414 1 (.istore 4) (3) := ri_of (by decide +kernel) rfl
theorem wi_414_11 : ri (rt_P sc fm) 414 11 (.iload 5) (13) := ri_of (by decide +kernel) rfl
theorem wi_414_13 : ri (rt_P sc fm) 414 13 (.aload_n 0) (14) := ri_of (by decide +kernel) rfl
theorem wi_414_14 : ri (rt_P sc fm) 414 14 (.getfield 161) (17) := ri_of (by decide +kernel) rfl
theorem wi_414_17 : ri (rt_P sc fm) 414 17 (.iload 4) (19) := ri_of (by decide +kernel) rfl
theorem wi_414_19 : ri (rt_P sc fm) 414 19 (.iaload) (20) := ri_of (by decide +kernel) rfl
theorem wi_414_20 : ri (rt_P sc fm) 414 20 (.if_icmp .ge 36) (23) := ri_of (by decide +kernel) rfl
theorem wi_414_23 : ri (rt_P sc fm) 414 23 (.aload_n 0) (24) := ri_of (by decide +kernel) rfl
theorem wi_414_24 : ri (rt_P sc fm) 414 24 (.getfield 170) (27) := ri_of (by decide +kernel) rfl
theorem wi_414_27 : ri (rt_P sc fm) 414 27 (.bipush 8) (29) := ri_of (by decide +kernel) rfl
theorem wi_414_29 : ri (rt_P sc fm) 414 29 (.iload 4) (31) := ri_of (by decide +kernel) rfl
theorem wi_414_3 : ri (rt_P sc fm) 414 3 (.iload 4) (5) := ri_of (by decide +kernel) rfl
theorem wi_414_31 : ri (rt_P sc fm) 414 31 (.imul) (32) := ri_of (by decide +kernel) rfl
theorem wi_414_32 : ri (rt_P sc fm) 414 32 (.iload 5) (34) := ri_of (by decide +kernel) rfl
theorem wi_414_34 : ri (rt_P sc fm) 414 34 (.iadd) (35) := ri_of (by decide +kernel) rfl
theorem wi_414_35 : ri (rt_P sc fm) 414 35 (.laload) (36) := ri_of (by decide +kernel) rfl
theorem wi_414_36 : ri (rt_P sc fm) 414 36 (.lload_n 2) (37) := ri_of (by decide +kernel) rfl
theorem wi_414_37 : ri (rt_P sc fm) 414 37 (.lcmp) (38) := ri_of (by decide +kernel) rfl
theorem wi_414_38 : ri (rt_P sc fm) 414 38 (.ifCond .ne 12) (41) := ri_of (by decide +kernel) rfl
theorem wi_414_41 : ri (rt_P sc fm) 414 41 (.bipush 100) (43) := ri_of (by decide +kernel) rfl
theorem wi_414_43 : ri (rt_P sc fm) 414 43 (.iload 4) (45) := ri_of (by decide +kernel) rfl
theorem wi_414_45 : ri (rt_P sc fm) 414 45 (.imul) (46) := ri_of (by decide +kernel) rfl
theorem wi_414_46 : ri (rt_P sc fm) 414 46 (.iload 5) (48) := ri_of (by decide +kernel) rfl
theorem wi_414_48 : ri (rt_P sc fm) 414 48 (.iadd) (49) := ri_of (by decide +kernel) rfl
theorem wi_414_49 : ri (rt_P sc fm) 414 49 (.ireturn) (50) := ri_of (by decide +kernel) rfl
theorem wi_414_5 : ri (rt_P sc fm) 414 5 (.ifCond .lt 63) (8) := ri_of (by decide +kernel) rfl
theorem wi_414_50 : ri (rt_P sc fm) 414 50 (.iinc 5 1) (53) := ri_of (by decide +kernel) rfl
theorem wi_414_53 : ri (rt_P sc fm) 414 53 (.goto (-42)) (56) := ri_of (by decide +kernel) rfl
theorem wi_414_56 : ri (rt_P sc fm) 414 56 (.aload_n 0) (57) := ri_of (by decide +kernel) rfl
theorem wi_414_57 : ri (rt_P sc fm) 414 57 (.getfield 155) (60) := ri_of (by decide +kernel) rfl
theorem wi_414_60 : ri (rt_P sc fm) 414 60 (.iload 4) (62) := ri_of (by decide +kernel) rfl
theorem wi_414_62 : ri (rt_P sc fm) 414 62 (.iaload) (63) := ri_of (by decide +kernel) rfl
theorem wi_414_63 : ri (rt_P sc fm) 414 63 (.istore 4) (65) := ri_of (by decide +kernel) rfl
theorem wi_414_65 : ri (rt_P sc fm) 414 65 (.goto (-62)) (68) := ri_of (by decide +kernel) rfl
theorem wi_414_68 : ri (rt_P sc fm) 414 68 (.iconst (-1)) (69) := ri_of (by decide +kernel) rfl
theorem wi_414_69 : ri (rt_P sc fm) 414 69 (.ireturn) (70) := ri_of (by decide +kernel) rfl
theorem wi_414_8 : ri (rt_P sc fm) 414 8 (.iconst 0) (9) := ri_of (by decide +kernel) rfl
theorem wi_414_9 : ri (rt_P sc fm) 414 9 (.istore 5) (11) := ri_of (by decide +kernel) rfl
theorem wr_414 : rx_rt (rt_P sc fm) 414 = (some FieldType.int) := (by decide +kernel : rt_rt 414 = (some FieldType.int))
/-- MarkHouseModel.methodOf(IJ)I -/
def d_414 (n : Nat) (a1 : Int32) (a2 : Int64) (c : cS) : Option (Int32) :=
  Option.bind (whl (R := (Unit) ⊕ (Int32 × Int32)) (fun s2 : Int32 =>
    if s2 < 0 then
      some (.inr (.inl ()))
    else
      Option.bind (whl (R := (Unit) ⊕ (Int32)) (fun s4 : Int32 =>
        if ib s2 12 then
        if (c.1 203 (ix s2)) ≤ s4 then
          some (.inr (.inl ()))
        else
          if ib ((8 * s2) + s4) 96 then
          if (lg_cmp (c.2 206 (ix ((8 * s2) + s4))) a2) = 0 then
            some (.inr (.inr s4))
          else
            lt (s4 + 1 : Int32) (fun v8 =>
            some (.inl v8))
          else none
        else none) n 0)
      (Sum.elim (fun x10 : Unit =>
        if ib s2 12 then
        lt ((c.1 201 (ix s2)) : Int32) (fun v13 =>
        some (.inl v13))
        else none)
      (fun x15 : Int32 =>
        some (.inr (.inr (s2, x15)))))) n a1)
  (Sum.elim (fun x16 : Unit =>
    some (-1))
  (fun x17 : Int32 × Int32 =>
    some ((100 * x17.1) + x17.2)))
set_option maxRecDepth 100000 in
set_option maxHeartbeats 4000000 in
theorem sp_414 {F Lo n : Nat} {a1 : Int32} {a2 : Int64} {c y : cS} {w : cW} {K : Int32 → Prop} {Q : ((Option Value) ⊕ String) → List va_E → Prop} (hw : rOK fm w) (hF : 0 ≤ F) (hLo : 0 ≤ Lo)  (h : wp (d_414 n a1 a2 c) K) (hQ : ∀ r, K r → Q (.inl (some (.int r))) (hq false c y w)) : rs (rt_P sc fm) 414 F Lo 0 [(0, .ref 174), (1, .int a1), (2, .long a2)] [] (hq false c y w) Q := by
  unfold d_414 at h
  obtain ⟨lv, elv⟩ : ∃ lv : rx_L, lv = [(0, .ref 174), (1, .int a1), (2, .long a2)] := ⟨_, rfl⟩
  rw [← elv]
  have l0 : rx_ld lv 0 = some (.ref 174) := by rw [elv]; rfl
  have l1 : rx_ld lv 1 = some (.int a1) := by rw [elv]; rfl
  have l2 : rx_ld lv 2 = some (.long a2) := by rw [elv]; rfl
  refine rs_ildn wi_414_0 l1 ?_
  refine dl_ist wi_414_1 rfl (fun lv l4 t1 => ?_)
  have l0 := t1 _ _ (by decide) (Or.inl rfl) l0
  have l2 := t1 _ _ (by decide) (Or.inr (by decide)) l2
  refine whl_ex (A := fun s2 : Int32 => ∀ lv, rx_ld lv 0 = some (.ref 174) → rx_ld lv 2 = some (.long a2) → rx_ld lv 4 = some (.int s2) → rs (rt_P sc fm) 414 F Lo 3 lv [] (hq false c y w) Q) (B := (Sum.elim (fun x16 : Unit => ∀ lv, rs (rt_P sc fm) 414 F Lo 68 lv [] (hq false c y w) Q) (fun x17 : Int32 × Int32 => ∀ lv, rx_ld lv 4 = some (.int x17.1) → rx_ld lv 5 = some (.int x17.2) → rs (rt_P sc fm) 414 F Lo 41 lv [] (hq false c y w) Q))) ?_ ?_ _ _ (wp_bind h) _ l0 l2 l4
  · intro s2 h lv l0 l2 l4
    refine rs_ild wi_414_3 l4 ?_
    refine rs_iflt (tg := 68) wi_414_5 ⟨by decide, by decide⟩ (fun q => ?_) (fun q => ?_)
    ·
      have h := wp_pos h q
      exact h _
    ·
      have h := wp_neg h q
      refine rs_pure wi_414_8 rfl ?_
      refine rs_topi (v := 0) (by decide) ?_
      refine dl_ist wi_414_9 rfl (fun lv l5 t3 => ?_)
      have l0 := t3 _ _ (by decide) (Or.inl rfl) l0
      have l2 := t3 _ _ (by decide) (Or.inr (by decide)) l2
      have l4 := t3 _ _ (by decide) (Or.inl rfl) l4
      refine whl_ex (A := fun s4 : Int32 => ∀ lv, rx_ld lv 0 = some (.ref 174) → rx_ld lv 2 = some (.long a2) → rx_ld lv 4 = some (.int s2) → rx_ld lv 5 = some (.int s4) → rs (rt_P sc fm) 414 F Lo 11 lv [] (hq false c y w) Q) (B := (Sum.elim (fun x10 : Unit => ∀ lv, rx_ld lv 0 = some (.ref 174) → rx_ld lv 2 = some (.long a2) → rx_ld lv 4 = some (.int s2) → rs (rt_P sc fm) 414 F Lo 56 lv [] (hq false c y w) Q) (fun x15 : Int32 => ∀ lv, rx_ld lv 4 = some (.int s2) → rx_ld lv 5 = some (.int x15) → rs (rt_P sc fm) 414 F Lo 41 lv [] (hq false c y w) Q))) ?_ ?_ _ _ (wp_bind h) _ l0 l2 l4 l5
      · intro s4 h lv l0 l2 l4 l5
        refine rs_ild wi_414_11 l5 ?_
        refine rs_aldn wi_414_13 l0 ?_
        refine dq_gr wi_414_14 wf_414_161 tf_174_41 ?_
        refine rs_ild wi_414_17 l4 ?_
        obtain ⟨g5, h⟩ := wp_gd h
        refine dq_iald wi_414_19 t_203 g5 ?_
        refine rs_icge (tg := 56) wi_414_20 ⟨by decide, by decide⟩ (fun q => ?_) (fun q => ?_)
        ·
          have h := wp_pos h q
          exact h _ l0 l2 l4
        ·
          have h := wp_neg h q
          refine rs_aldn wi_414_23 l0 ?_
          refine dq_gr wi_414_24 wf_414_170 tf_174_44 ?_
          refine rs_pure wi_414_27 rfl ?_
          refine rs_topi (v := 8) (by decide) ?_
          refine rs_ild wi_414_29 l4 ?_
          refine rs_pure wi_414_31 rfl ?_
          refine rs_ild wi_414_32 l5 ?_
          refine rs_pure wi_414_34 rfl ?_
          obtain ⟨g6, h⟩ := wp_gd h
          refine dq_lald wi_414_35 t_206 g6 ?_
          refine rs_lldn wi_414_36 l2 ?_
          refine rs_pure wi_414_37 rfl ?_
          refine rs_ifne (tg := 50) wi_414_38 ⟨by decide, by decide⟩ (fun q => ?_) (fun q => ?_)
          ·
            have h := wp_neg h q
            obtain ⟨v8, e9, h⟩ := wp_lt h
            refine dl_inc wi_414_50 l5 rfl e9 (fun lv l5 t7 => ?_)
            have l0 := t7 _ _ (by decide) (Or.inl rfl) l0
            have l2 := t7 _ _ (by decide) (Or.inr (by decide)) l2
            have l4 := t7 _ _ (by decide) (Or.inl rfl) l4
            refine rs_goto (tg := 11) wi_414_53 ⟨by decide, by decide⟩ ?_
            exact h _ l0 l2 l4 l5
          ·
            have h := wp_pos h q
            exact h _ l4 l5
      ·
        refine sum_all ?_ ?_
        ·
          intro x10 h lv l0 l2 l4
          have h := wp_inl h
          refine rs_aldn wi_414_56 l0 ?_
          refine dq_gr wi_414_57 wf_414_155 tf_174_39 ?_
          refine rs_ild wi_414_60 l4 ?_
          obtain ⟨g11, h⟩ := wp_gd h
          refine dq_iald wi_414_62 t_201 g11 ?_
          obtain ⟨v13, e14, h⟩ := wp_lt h
          refine rs_topi e14 ?_
          refine dl_ist wi_414_63 rfl (fun lv l4 t12 => ?_)
          have l0 := t12 _ _ (by decide) (Or.inl rfl) l0
          have l2 := t12 _ _ (by decide) (Or.inr (by decide)) l2
          refine rs_goto (tg := 3) wi_414_65 ⟨by decide, by decide⟩ ?_
          exact h _ l0 l2 l4
        ·
          intro x15 h lv l4 l5
          have h := wp_inr h
          exact h _ l4 l5
  ·
    refine sum_all ?_ ?_
    ·
      intro x16 h lv
      have h := wp_inl h
      refine rs_pure wi_414_68 rfl ?_
      refine rs_topi (v := (-1)) (by decide) ?_
      exact rs_iret wi_414_69 wr_414 rfl (hQ (-1) h)
    ·
      intro x17 h lv l4 l5
      have h := wp_inr h
      refine rs_pure wi_414_41 rfl ?_
      refine rs_topi (v := 100) (by decide) ?_
      refine rs_ild wi_414_43 l4 ?_
      refine rs_pure wi_414_45 rfl ?_
      refine rs_ild wi_414_46 l5 ?_
      refine rs_pure wi_414_48 rfl ?_
      exact rs_iret wi_414_49 wr_414 rfl (hQ ((100 * x17.1) + x17.2) h)
theorem wf_413_155 : rx_ft (rt_P sc fm) 413 155 = some (15, 39) := (by decide +kernel : rt_ft 413 155 = some (15, 39))
theorem wf_413_158 : rx_ft (rt_P sc fm) 413 158 = some (15, 40) := (by decide +kernel : rt_ft 413 158 = some (15, 40))
theorem wf_413_164 : rx_ft (rt_P sc fm) 413 164 = some (15, 42) := (by decide +kernel : rt_ft 413 164 = some (15, 42))
theorem wi_413_0 : ri (rt_P sc fm) 413 0 (.iload_n 1) (1) := ri_of (by decide +kernel) rfl
theorem wi_413_1 : ri (rt_P sc fm) 413 1 (.istore 4) (3) := ri_of (by decide +kernel) rfl
theorem wi_413_11 : ri (rt_P sc fm) 413 11 (.iload 5) (13) := ri_of (by decide +kernel) rfl
theorem wi_413_13 : ri (rt_P sc fm) 413 13 (.aload_n 0) (14) := ri_of (by decide +kernel) rfl
theorem wi_413_14 : ri (rt_P sc fm) 413 14 (.getfield 158) (17) := ri_of (by decide +kernel) rfl
theorem wi_413_17 : ri (rt_P sc fm) 413 17 (.iload 4) (19) := ri_of (by decide +kernel) rfl
theorem wi_413_19 : ri (rt_P sc fm) 413 19 (.iaload) (20) := ri_of (by decide +kernel) rfl
theorem wi_413_20 : ri (rt_P sc fm) 413 20 (.if_icmp .ge 36) (23) := ri_of (by decide +kernel) rfl
theorem wi_413_23 : ri (rt_P sc fm) 413 23 (.aload_n 0) (24) := ri_of (by decide +kernel) rfl
theorem wi_413_24 : ri (rt_P sc fm) 413 24 (.getfield 164) (27) := ri_of (by decide +kernel) rfl
theorem wi_413_27 : ri (rt_P sc fm) 413 27 (.bipush 8) (29) := ri_of (by decide +kernel) rfl
theorem wi_413_29 : ri (rt_P sc fm) 413 29 (.iload 4) (31) := ri_of (by decide +kernel) rfl
theorem wi_413_3 : ri (rt_P sc fm) 413 3 (.iload 4) (5) := ri_of (by decide +kernel) rfl
theorem wi_413_31 : ri (rt_P sc fm) 413 31 (.imul) (32) := ri_of (by decide +kernel) rfl
theorem wi_413_32 : ri (rt_P sc fm) 413 32 (.iload 5) (34) := ri_of (by decide +kernel) rfl
theorem wi_413_34 : ri (rt_P sc fm) 413 34 (.iadd) (35) := ri_of (by decide +kernel) rfl
theorem wi_413_35 : ri (rt_P sc fm) 413 35 (.laload) (36) := ri_of (by decide +kernel) rfl
theorem wi_413_36 : ri (rt_P sc fm) 413 36 (.lload_n 2) (37) := ri_of (by decide +kernel) rfl
theorem wi_413_37 : ri (rt_P sc fm) 413 37 (.lcmp) (38) := ri_of (by decide +kernel) rfl
theorem wi_413_38 : ri (rt_P sc fm) 413 38 (.ifCond .ne 12) (41) := ri_of (by decide +kernel) rfl
theorem wi_413_41 : ri (rt_P sc fm) 413 41 (.bipush 100) (43) := ri_of (by decide +kernel) rfl
theorem wi_413_43 : ri (rt_P sc fm) 413 43 (.iload 4) (45) := ri_of (by decide +kernel) rfl
theorem wi_413_45 : ri (rt_P sc fm) 413 45 (.imul) (46) := ri_of (by decide +kernel) rfl
theorem wi_413_46 : ri (rt_P sc fm) 413 46 (.iload 5) (48) := ri_of (by decide +kernel) rfl
theorem wi_413_48 : ri (rt_P sc fm) 413 48 (.iadd) (49) := ri_of (by decide +kernel) rfl
theorem wi_413_49 : ri (rt_P sc fm) 413 49 (.ireturn) (50) := ri_of (by decide +kernel) rfl
theorem wi_413_5 : ri (rt_P sc fm) 413 5 (.ifCond .lt 63) (8) := ri_of (by decide +kernel) rfl
theorem wi_413_50 : ri (rt_P sc fm) 413 50 (.iinc 5 1) (53) := ri_of (by decide +kernel) rfl
theorem wi_413_53 : ri (rt_P sc fm) 413 53 (.goto (-42)) (56) := ri_of (by decide +kernel) rfl
theorem wi_413_56 : ri (rt_P sc fm) 413 56 (.aload_n 0) (57) := ri_of (by decide +kernel) rfl
theorem wi_413_57 : ri (rt_P sc fm) 413 57 (.getfield 155) (60) := ri_of (by decide +kernel) rfl
theorem wi_413_60 : ri (rt_P sc fm) 413 60 (.iload 4) (62) := ri_of (by decide +kernel) rfl
theorem wi_413_62 : ri (rt_P sc fm) 413 62 (.iaload) (63) := ri_of (by decide +kernel) rfl
theorem wi_413_63 : ri (rt_P sc fm) 413 63 (.istore 4) (65) := ri_of (by decide +kernel) rfl
theorem wi_413_65 : ri (rt_P sc fm) 413 65 (.goto (-62)) (68) := ri_of (by decide +kernel) rfl
theorem wi_413_68 : ri (rt_P sc fm) 413 68 (.iconst (-1)) (69) := ri_of (by decide +kernel) rfl
theorem wi_413_69 : ri (rt_P sc fm) 413 69 (.ireturn) (70) := ri_of (by decide +kernel) rfl
theorem wi_413_8 : ri (rt_P sc fm) 413 8 (.iconst 0) (9) := ri_of (by decide +kernel) rfl
theorem wi_413_9 : ri (rt_P sc fm) 413 9 (.istore 5) (11) := ri_of (by decide +kernel) rfl
theorem wr_413 : rx_rt (rt_P sc fm) 413 = (some FieldType.int) := (by decide +kernel : rt_rt 413 = (some FieldType.int))
/-- MarkHouseModel.fieldOf(IJ)I -/
def d_413 (n : Nat) (a1 : Int32) (a2 : Int64) (c : cS) : Option (Int32) :=
  Option.bind (whl (R := (Unit) ⊕ (Int32 × Int32)) (fun s2 : Int32 =>
    if s2 < 0 then
      some (.inr (.inl ()))
    else
      Option.bind (whl (R := (Unit) ⊕ (Int32)) (fun s4 : Int32 =>
        if ib s2 12 then
        if (c.1 202 (ix s2)) ≤ s4 then
          some (.inr (.inl ()))
        else
          if ib ((8 * s2) + s4) 96 then
          if (lg_cmp (c.2 204 (ix ((8 * s2) + s4))) a2) = 0 then
            some (.inr (.inr s4))
          else
            lt (s4 + 1 : Int32) (fun v8 =>
            some (.inl v8))
          else none
        else none) n 0)
      (Sum.elim (fun x10 : Unit =>
        if ib s2 12 then
        lt ((c.1 201 (ix s2)) : Int32) (fun v13 =>
        some (.inl v13))
        else none)
      (fun x15 : Int32 =>
        some (.inr (.inr (s2, x15)))))) n a1)
  (Sum.elim (fun x16 : Unit =>
    some (-1))
  (fun x17 : Int32 × Int32 =>
    some ((100 * x17.1) + x17.2)))
set_option maxRecDepth 100000 in
set_option maxHeartbeats 4000000 in
theorem sp_413 {F Lo n : Nat} {a1 : Int32} {a2 : Int64} {c y : cS} {w : cW} {K : Int32 → Prop} {Q : ((Option Value) ⊕ String) → List va_E → Prop} (hw : rOK fm w) (hF : 0 ≤ F) (hLo : 0 ≤ Lo)  (h : wp (d_413 n a1 a2 c) K) (hQ : ∀ r, K r → Q (.inl (some (.int r))) (hq false c y w)) : rs (rt_P sc fm) 413 F Lo 0 [(0, .ref 174), (1, .int a1), (2, .long a2)] [] (hq false c y w) Q := by
  unfold d_413 at h
  obtain ⟨lv, elv⟩ : ∃ lv : rx_L, lv = [(0, .ref 174), (1, .int a1), (2, .long a2)] := ⟨_, rfl⟩
  rw [← elv]
  have l0 : rx_ld lv 0 = some (.ref 174) := by rw [elv]; rfl
  have l1 : rx_ld lv 1 = some (.int a1) := by rw [elv]; rfl
  have l2 : rx_ld lv 2 = some (.long a2) := by rw [elv]; rfl
  refine rs_ildn wi_413_0 l1 ?_
  refine dl_ist wi_413_1 rfl (fun lv l4 t1 => ?_)
  have l0 := t1 _ _ (by decide) (Or.inl rfl) l0
  have l2 := t1 _ _ (by decide) (Or.inr (by decide)) l2
  refine whl_ex (A := fun s2 : Int32 => ∀ lv, rx_ld lv 0 = some (.ref 174) → rx_ld lv 2 = some (.long a2) → rx_ld lv 4 = some (.int s2) → rs (rt_P sc fm) 413 F Lo 3 lv [] (hq false c y w) Q) (B := (Sum.elim (fun x16 : Unit => ∀ lv, rs (rt_P sc fm) 413 F Lo 68 lv [] (hq false c y w) Q) (fun x17 : Int32 × Int32 => ∀ lv, rx_ld lv 4 = some (.int x17.1) → rx_ld lv 5 = some (.int x17.2) → rs (rt_P sc fm) 413 F Lo 41 lv [] (hq false c y w) Q))) ?_ ?_ _ _ (wp_bind h) _ l0 l2 l4
  · intro s2 h lv l0 l2 l4
    refine rs_ild wi_413_3 l4 ?_
    refine rs_iflt (tg := 68) wi_413_5 ⟨by decide, by decide⟩ (fun q => ?_) (fun q => ?_)
    ·
      have h := wp_pos h q
      exact h _
    ·
      have h := wp_neg h q
      refine rs_pure wi_413_8 rfl ?_
      refine rs_topi (v := 0) (by decide) ?_
      refine dl_ist wi_413_9 rfl (fun lv l5 t3 => ?_)
      have l0 := t3 _ _ (by decide) (Or.inl rfl) l0
      have l2 := t3 _ _ (by decide) (Or.inr (by decide)) l2
      have l4 := t3 _ _ (by decide) (Or.inl rfl) l4
      refine whl_ex (A := fun s4 : Int32 => ∀ lv, rx_ld lv 0 = some (.ref 174) → rx_ld lv 2 = some (.long a2) → rx_ld lv 4 = some (.int s2) → rx_ld lv 5 = some (.int s4) → rs (rt_P sc fm) 413 F Lo 11 lv [] (hq false c y w) Q) (B := (Sum.elim (fun x10 : Unit => ∀ lv, rx_ld lv 0 = some (.ref 174) → rx_ld lv 2 = some (.long a2) → rx_ld lv 4 = some (.int s2) → rs (rt_P sc fm) 413 F Lo 56 lv [] (hq false c y w) Q) (fun x15 : Int32 => ∀ lv, rx_ld lv 4 = some (.int s2) → rx_ld lv 5 = some (.int x15) → rs (rt_P sc fm) 413 F Lo 41 lv [] (hq false c y w) Q))) ?_ ?_ _ _ (wp_bind h) _ l0 l2 l4 l5
      · intro s4 h lv l0 l2 l4 l5
        refine rs_ild wi_413_11 l5 ?_
        refine rs_aldn wi_413_13 l0 ?_
        refine dq_gr wi_413_14 wf_413_158 tf_174_40 ?_
        refine rs_ild wi_413_17 l4 ?_
        obtain ⟨g5, h⟩ := wp_gd h
        refine dq_iald wi_413_19 t_202 g5 ?_
        refine rs_icge (tg := 56) wi_413_20 ⟨by decide, by decide⟩ (fun q => ?_) (fun q => ?_)
        ·
          have h := wp_pos h q
          exact h _ l0 l2 l4
        ·
          have h := wp_neg h q
          refine rs_aldn wi_413_23 l0 ?_
          refine dq_gr wi_413_24 wf_413_164 tf_174_42 ?_
          refine rs_pure wi_413_27 rfl ?_
          refine rs_topi (v := 8) (by decide) ?_
          refine rs_ild wi_413_29 l4 ?_
          refine rs_pure wi_413_31 rfl ?_
          refine rs_ild wi_413_32 l5 ?_
          refine rs_pure wi_413_34 rfl ?_
          obtain ⟨g6, h⟩ := wp_gd h
          refine dq_lald wi_413_35 t_204 g6 ?_
          refine rs_lldn wi_413_36 l2 ?_
          refine rs_pure wi_413_37 rfl ?_
          refine rs_ifne (tg := 50) wi_413_38 ⟨by decide, by decide⟩ (fun q => ?_) (fun q => ?_)
          ·
            have h := wp_neg h q
            obtain ⟨v8, e9, h⟩ := wp_lt h
            refine dl_inc wi_413_50 l5 rfl e9 (fun lv l5 t7 => ?_)
            have l0 := t7 _ _ (by decide) (Or.inl rfl) l0
            have l2 := t7 _ _ (by decide) (Or.inr (by decide)) l2
            have l4 := t7 _ _ (by decide) (Or.inl rfl) l4
            refine rs_goto (tg := 11) wi_413_53 ⟨by decide, by decide⟩ ?_
            exact h _ l0 l2 l4 l5
          ·
            have h := wp_pos h q
            exact h _ l4 l5
      ·
        refine sum_all ?_ ?_
        ·
          intro x10 h lv l0 l2 l4
          have h := wp_inl h
          refine rs_aldn wi_413_56 l0 ?_
          refine dq_gr wi_413_57 wf_413_155 tf_174_39 ?_
          refine rs_ild wi_413_60 l4 ?_
          obtain ⟨g11, h⟩ := wp_gd h
          refine dq_iald wi_413_62 t_201 g11 ?_
          obtain ⟨v13, e14, h⟩ := wp_lt h
          refine rs_topi e14 ?_
          refine dl_ist wi_413_63 rfl (fun lv l4 t12 => ?_)
          have l0 := t12 _ _ (by decide) (Or.inl rfl) l0
          have l2 := t12 _ _ (by decide) (Or.inr (by decide)) l2
          refine rs_goto (tg := 3) wi_413_65 ⟨by decide, by decide⟩ ?_
          exact h _ l0 l2 l4
        ·
          intro x15 h lv l4 l5
          have h := wp_inr h
          exact h _ l4 l5
  ·
    refine sum_all ?_ ?_
    ·
      intro x16 h lv
      have h := wp_inl h
      refine rs_pure wi_413_68 rfl ?_
      refine rs_topi (v := (-1)) (by decide) ?_
      exact rs_iret wi_413_69 wr_413 rfl (hQ (-1) h)
    ·
      intro x17 h lv l4 l5
      have h := wp_inr h
      refine rs_pure wi_413_41 rfl ?_
      refine rs_topi (v := 100) (by decide) ?_
      refine rs_ild wi_413_43 l4 ?_
      refine rs_pure wi_413_45 rfl ?_
      refine rs_ild wi_413_46 l5 ?_
      refine rs_pure wi_413_48 rfl ?_
      exact rs_iret wi_413_49 wr_413 rfl (hQ ((100 * x17.1) + x17.2) h)
theorem t_229 : ta false 229 0 3840 := ⟨rfl, by decide, by decide⟩
theorem tf_174_69 : fo false 174 15 69 (.ref 229) := ⟨_, rfl, rfl, by decide, by decide⟩
theorem wa_15_413 : rz_cn 15 (rx_yn (rt_P sc fm) 413).cls = true := (by decide +kernel : rz_cn 15 (rt_yn 413).cls = true)
theorem wa_15_414 : rz_cn 15 (rx_yn (rt_P sc fm) 414).cls = true := (by decide +kernel : rz_cn 15 (rt_yn 414).cls = true)
theorem wc_416_432 : rx_ct (rt_P sc fm) 416 432 = some (0, 97, 2) := (by decide +kernel : rt_ct 416 432 = some (0, 97, 2))
theorem wc_416_468 : rx_ct (rt_P sc fm) 416 468 = some (0, 375, 1) := (by decide +kernel : rt_ct 416 468 = some (0, 375, 1))
theorem wc_416_620 : rx_ct (rt_P sc fm) 416 620 = some (0, 414, 2) := (by decide +kernel : rt_ct 416 620 = some (0, 414, 2))
theorem wc_416_623 : rx_ct (rt_P sc fm) 416 623 = some (0, 413, 2) := (by decide +kernel : rt_ct 416 623 = some (0, 413, 2))
theorem wf_416_182 : rx_ft (rt_P sc fm) 416 182 = some (15, 48) := (by decide +kernel : rt_ft 416 182 = some (15, 48))
theorem wf_416_185 : rx_ft (rt_P sc fm) 416 185 = some (15, 49) := (by decide +kernel : rt_ft 416 185 = some (15, 49))
theorem wf_416_188 : rx_ft (rt_P sc fm) 416 188 = some (15, 50) := (by decide +kernel : rt_ft 416 188 = some (15, 50))
theorem wf_416_194 : rx_ft (rt_P sc fm) 416 194 = some (15, 52) := (by decide +kernel : rt_ft 416 194 = some (15, 52))
theorem wf_416_197 : rx_ft (rt_P sc fm) 416 197 = some (15, 53) := (by decide +kernel : rt_ft 416 197 = some (15, 53))
theorem wf_416_200 : rx_ft (rt_P sc fm) 416 200 = some (15, 54) := (by decide +kernel : rt_ft 416 200 = some (15, 54))
theorem wf_416_203 : rx_ft (rt_P sc fm) 416 203 = some (15, 55) := (by decide +kernel : rt_ft 416 203 = some (15, 55))
theorem wf_416_206 : rx_ft (rt_P sc fm) 416 206 = some (15, 56) := (by decide +kernel : rt_ft 416 206 = some (15, 56))
theorem wf_416_240 : rx_ft (rt_P sc fm) 416 240 = some (15, 69) := (by decide +kernel : rt_ft 416 240 = some (15, 69))
theorem wf_416_87 : rx_ft (rt_P sc fm) 416 87 = some (15, 9) := (by decide +kernel : rt_ft 416 87 = some (15, 9))
theorem wf_416_90 : rx_ft (rt_P sc fm) 416 90 = some (15, 10) := (by decide +kernel : rt_ft 416 90 = some (15, 10))
theorem wi_416_0 : ri (rt_P sc fm) 416 0 (.aload_n 0) (1) := ri_of (by decide +kernel) rfl
theorem wi_416_1 : ri (rt_P sc fm) 416 1 (.getfield 185) (4) := ri_of (by decide +kernel) rfl
theorem wi_416_100 : ri (rt_P sc fm) 416 100 (.aload_n 0) (101) := ri_of (by decide +kernel) rfl
theorem wi_416_101 : ri (rt_P sc fm) 416 101 (.getfield 90) (104) := ri_of (by decide +kernel) rfl
theorem wi_416_104 : ri (rt_P sc fm) 416 104 (.iload_n 3) (105) := ri_of (by decide +kernel) rfl
theorem wi_416_105 : ri (rt_P sc fm) 416 105 (.iconst 2) (106) := ri_of (by decide +kernel) rfl
theorem wi_416_106 : ri (rt_P sc fm) 416 106 (.iadd) (107) := ri_of (by decide +kernel) rfl
theorem wi_416_107 : ri (rt_P sc fm) 416 107 (.laload) (108) := ri_of (by decide +kernel) rfl
theorem wi_416_108 : ri (rt_P sc fm) 416 108 (.invokevirtual 623) (111) := ri_of (by decide +kernel) rfl
theorem wi_416_11 : ri (rt_P sc fm) 416 11 (.aload_n 0) (12) := ri_of (by decide +kernel) rfl
theorem wi_416_111 : ri (rt_P sc fm) 416 111 (.istore 5) (113) := ri_of (by decide +kernel) rfl
theorem wi_416_113 : ri (rt_P sc fm) 416 113 (.iload 5) (115) := ri_of (by decide +kernel) rfl
theorem wi_416_115 : ri (rt_P sc fm) 416 115 (.ifCond .ge 17) (118) := ri_of (by decide +kernel) rfl
theorem wi_416_118 : ri (rt_P sc fm) 416 118 (.aload_n 0) (119) := ri_of (by decide +kernel) rfl
theorem wi_416_119 : ri (rt_P sc fm) 416 119 (.iconst 5) (120) := ri_of (by decide +kernel) rfl
theorem wi_416_12 : ri (rt_P sc fm) 416 12 (.getfield 185) (15) := ri_of (by decide +kernel) rfl
theorem wi_416_120 : ri (rt_P sc fm) 416 120 (.aload_n 0) (121) := ri_of (by decide +kernel) rfl
theorem wi_416_121 : ri (rt_P sc fm) 416 121 (.getfield 87) (124) := ri_of (by decide +kernel) rfl
theorem wi_416_124 : ri (rt_P sc fm) 416 124 (.iload_n 3) (125) := ri_of (by decide +kernel) rfl
theorem wi_416_125 : ri (rt_P sc fm) 416 125 (.iconst 2) (126) := ri_of (by decide +kernel) rfl
theorem wi_416_126 : ri (rt_P sc fm) 416 126 (.iadd) (127) := ri_of (by decide +kernel) rfl
theorem wi_416_127 : ri (rt_P sc fm) 416 127 (.iaload) (128) := ri_of (by decide +kernel) rfl
theorem wi_416_128 : ri (rt_P sc fm) 416 128 (.invokevirtual 432) (131) := ri_of (by decide +kernel) rfl
theorem wi_416_131 : ri (rt_P sc fm) 416 131 (.return_) (132) := ri_of (by decide +kernel) rfl
theorem wi_416_132 : ri (rt_P sc fm) 416 132 (.aload_n 0) (133) := ri_of (by decide +kernel) rfl
theorem wi_416_133 : ri (rt_P sc fm) 416 133 (.getfield 194) (136) := ri_of (by decide +kernel) rfl
theorem wi_416_136 : ri (rt_P sc fm) 416 136 (.iload_n 2) (137) := ri_of (by decide +kernel) rfl
theorem wi_416_137 : ri (rt_P sc fm) 416 137 (.iload 5) (139) := ri_of (by decide +kernel) rfl
theorem wi_416_139 : ri (rt_P sc fm) 416 139 (.bipush 100) (141) := ri_of (by decide +kernel) rfl
theorem wi_416_141 : ri (rt_P sc fm) 416 141 (.idiv) (142) := ri_of (by decide +kernel) rfl
theorem wi_416_142 : ri (rt_P sc fm) 416 142 (.iastore) (143) := ri_of (by decide +kernel) rfl
theorem wi_416_143 : ri (rt_P sc fm) 416 143 (.aload_n 0) (144) := ri_of (by decide +kernel) rfl
theorem wi_416_144 : ri (rt_P sc fm) 416 144 (.getfield 197) (147) := ri_of (by decide +kernel) rfl
theorem wi_416_147 : ri (rt_P sc fm) 416 147 (.iload_n 2) (148) := ri_of (by decide +kernel) rfl
theorem wi_416_148 : ri (rt_P sc fm) 416 148 (.iload 5) (150) := ri_of (by decide +kernel) rfl
theorem wi_416_15 : ri (rt_P sc fm) 416 15 (.iload_n 2) (16) := ri_of (by decide +kernel) rfl
theorem wi_416_150 : ri (rt_P sc fm) 416 150 (.bipush 100) (152) := ri_of (by decide +kernel) rfl
theorem wi_416_152 : ri (rt_P sc fm) 416 152 (.irem) (153) := ri_of (by decide +kernel) rfl
theorem wi_416_153 : ri (rt_P sc fm) 416 153 (.iastore) (154) := ri_of (by decide +kernel) rfl
theorem wi_416_154 : ri (rt_P sc fm) 416 154 (.aload_n 0) (155) := ri_of (by decide +kernel) rfl
theorem wi_416_155 : ri (rt_P sc fm) 416 155 (.getfield 240) (158) := ri_of (by decide +kernel) rfl
theorem wi_416_158 : ri (rt_P sc fm) 416 158 (.iload_n 2) (159) := ri_of (by decide +kernel) rfl
theorem wi_416_159 : ri (rt_P sc fm) 416 159 (.iload 4) (161) := ri_of (by decide +kernel) rfl
theorem wi_416_16 : ri (rt_P sc fm) 416 16 (.iaload) (17) := ri_of (by decide +kernel) rfl
theorem wi_416_161 : ri (rt_P sc fm) 416 161 (.iastore) (162) := ri_of (by decide +kernel) rfl
theorem wi_416_162 : ri (rt_P sc fm) 416 162 (.aload_n 0) (163) := ri_of (by decide +kernel) rfl
theorem wi_416_163 : ri (rt_P sc fm) 416 163 (.getfield 185) (166) := ri_of (by decide +kernel) rfl
theorem wi_416_166 : ri (rt_P sc fm) 416 166 (.iload_n 2) (167) := ri_of (by decide +kernel) rfl
theorem wi_416_167 : ri (rt_P sc fm) 416 167 (.iaload) (168) := ri_of (by decide +kernel) rfl
theorem wi_416_168 : ri (rt_P sc fm) 416 168 (.bipush 27) (170) := ri_of (by decide +kernel) rfl
theorem wi_416_17 : ri (rt_P sc fm) 416 17 (.bipush 19) (19) := ri_of (by decide +kernel) rfl
theorem wi_416_170 : ri (rt_P sc fm) 416 170 (.if_icmp .eq 26) (173) := ri_of (by decide +kernel) rfl
theorem wi_416_173 : ri (rt_P sc fm) 416 173 (.aload_n 0) (174) := ri_of (by decide +kernel) rfl
theorem wi_416_174 : ri (rt_P sc fm) 416 174 (.getfield 185) (177) := ri_of (by decide +kernel) rfl
theorem wi_416_177 : ri (rt_P sc fm) 416 177 (.iload_n 2) (178) := ri_of (by decide +kernel) rfl
theorem wi_416_178 : ri (rt_P sc fm) 416 178 (.iaload) (179) := ri_of (by decide +kernel) rfl
theorem wi_416_179 : ri (rt_P sc fm) 416 179 (.bipush 28) (181) := ri_of (by decide +kernel) rfl
theorem wi_416_181 : ri (rt_P sc fm) 416 181 (.if_icmp .eq 15) (184) := ri_of (by decide +kernel) rfl
theorem wi_416_184 : ri (rt_P sc fm) 416 184 (.aload_n 0) (185) := ri_of (by decide +kernel) rfl
theorem wi_416_185 : ri (rt_P sc fm) 416 185 (.getfield 185) (188) := ri_of (by decide +kernel) rfl
theorem wi_416_188 : ri (rt_P sc fm) 416 188 (.iload_n 2) (189) := ri_of (by decide +kernel) rfl
theorem wi_416_189 : ri (rt_P sc fm) 416 189 (.iaload) (190) := ri_of (by decide +kernel) rfl
theorem wi_416_19 : ri (rt_P sc fm) 416 19 (.if_icmp .eq 14) (22) := ri_of (by decide +kernel) rfl
theorem wi_416_190 : ri (rt_P sc fm) 416 190 (.bipush 29) (192) := ri_of (by decide +kernel) rfl
theorem wi_416_192 : ri (rt_P sc fm) 416 192 (.if_icmp .eq 4) (195) := ri_of (by decide +kernel) rfl
theorem wi_416_195 : ri (rt_P sc fm) 416 195 (.return_) (196) := ri_of (by decide +kernel) rfl
theorem wi_416_196 : ri (rt_P sc fm) 416 196 (.iconst 0) (197) := ri_of (by decide +kernel) rfl
theorem wi_416_197 : ri (rt_P sc fm) 416 197 (.istore_n 3) (198) := ri_of (by decide +kernel) rfl
theorem wi_416_198 : ri (rt_P sc fm) 416 198 (.iload_n 3) (199) := ri_of (by decide +kernel) rfl
theorem wi_416_199 : ri (rt_P sc fm) 416 199 (.aload_n 0) (200) := ri_of (by decide +kernel) rfl
theorem wi_416_200 : ri (rt_P sc fm) 416 200 (.getfield 182) (203) := ri_of (by decide +kernel) rfl
theorem wi_416_203 : ri (rt_P sc fm) 416 203 (.iload_n 1) (204) := ri_of (by decide +kernel) rfl
theorem wi_416_204 : ri (rt_P sc fm) 416 204 (.iaload) (205) := ri_of (by decide +kernel) rfl
theorem wi_416_205 : ri (rt_P sc fm) 416 205 (.if_icmp .ge 42) (208) := ri_of (by decide +kernel) rfl
theorem wi_416_208 : ri (rt_P sc fm) 416 208 (.aload_n 0) (209) := ri_of (by decide +kernel) rfl
theorem wi_416_209 : ri (rt_P sc fm) 416 209 (.getfield 188) (212) := ri_of (by decide +kernel) rfl
theorem wi_416_212 : ri (rt_P sc fm) 416 212 (.bipush 40) (214) := ri_of (by decide +kernel) rfl
theorem wi_416_214 : ri (rt_P sc fm) 416 214 (.iload_n 1) (215) := ri_of (by decide +kernel) rfl
theorem wi_416_215 : ri (rt_P sc fm) 416 215 (.imul) (216) := ri_of (by decide +kernel) rfl
theorem wi_416_216 : ri (rt_P sc fm) 416 216 (.iload_n 3) (217) := ri_of (by decide +kernel) rfl
theorem wi_416_217 : ri (rt_P sc fm) 416 217 (.iadd) (218) := ri_of (by decide +kernel) rfl
theorem wi_416_218 : ri (rt_P sc fm) 416 218 (.laload) (219) := ri_of (by decide +kernel) rfl
theorem wi_416_219 : ri (rt_P sc fm) 416 219 (.aload_n 0) (220) := ri_of (by decide +kernel) rfl
theorem wi_416_22 : ri (rt_P sc fm) 416 22 (.aload_n 0) (23) := ri_of (by decide +kernel) rfl
theorem wi_416_220 : ri (rt_P sc fm) 416 220 (.getfield 90) (223) := ri_of (by decide +kernel) rfl
theorem wi_416_223 : ri (rt_P sc fm) 416 223 (.aload_n 0) (224) := ri_of (by decide +kernel) rfl
theorem wi_416_224 : ri (rt_P sc fm) 416 224 (.getfield 206) (227) := ri_of (by decide +kernel) rfl
theorem wi_416_227 : ri (rt_P sc fm) 416 227 (.iload_n 2) (228) := ri_of (by decide +kernel) rfl
theorem wi_416_228 : ri (rt_P sc fm) 416 228 (.iaload) (229) := ri_of (by decide +kernel) rfl
theorem wi_416_229 : ri (rt_P sc fm) 416 229 (.laload) (230) := ri_of (by decide +kernel) rfl
theorem wi_416_23 : ri (rt_P sc fm) 416 23 (.getfield 185) (26) := ri_of (by decide +kernel) rfl
theorem wi_416_230 : ri (rt_P sc fm) 416 230 (.lcmp) (231) := ri_of (by decide +kernel) rfl
theorem wi_416_231 : ri (rt_P sc fm) 416 231 (.ifCond .ne 10) (234) := ri_of (by decide +kernel) rfl
theorem wi_416_234 : ri (rt_P sc fm) 416 234 (.aload_n 0) (235) := ri_of (by decide +kernel) rfl
theorem wi_416_235 : ri (rt_P sc fm) 416 235 (.getfield 200) (238) := ri_of (by decide +kernel) rfl
theorem wi_416_238 : ri (rt_P sc fm) 416 238 (.iload_n 2) (239) := ri_of (by decide +kernel) rfl
theorem wi_416_239 : ri (rt_P sc fm) 416 239 (.iload_n 3) (240) := ri_of (by decide +kernel) rfl
theorem wi_416_240 : ri (rt_P sc fm) 416 240 (.iastore) (241) := ri_of (by decide +kernel) rfl
theorem wi_416_241 : ri (rt_P sc fm) 416 241 (.iinc 3 1) (244) := ri_of (by decide +kernel) rfl
theorem wi_416_244 : ri (rt_P sc fm) 416 244 (.goto (-46)) (247) := ri_of (by decide +kernel) rfl
theorem wi_416_247 : ri (rt_P sc fm) 416 247 (.aload_n 0) (248) := ri_of (by decide +kernel) rfl
theorem wi_416_248 : ri (rt_P sc fm) 416 248 (.getfield 200) (251) := ri_of (by decide +kernel) rfl
theorem wi_416_251 : ri (rt_P sc fm) 416 251 (.iload_n 2) (252) := ri_of (by decide +kernel) rfl
theorem wi_416_252 : ri (rt_P sc fm) 416 252 (.iaload) (253) := ri_of (by decide +kernel) rfl
theorem wi_416_253 : ri (rt_P sc fm) 416 253 (.ifCond .ge 19) (256) := ri_of (by decide +kernel) rfl
theorem wi_416_256 : ri (rt_P sc fm) 416 256 (.aload_n 0) (257) := ri_of (by decide +kernel) rfl
theorem wi_416_257 : ri (rt_P sc fm) 416 257 (.iconst 5) (258) := ri_of (by decide +kernel) rfl
theorem wi_416_258 : ri (rt_P sc fm) 416 258 (.aload_n 0) (259) := ri_of (by decide +kernel) rfl
theorem wi_416_259 : ri (rt_P sc fm) 416 259 (.getfield 87) (262) := ri_of (by decide +kernel) rfl
theorem wi_416_26 : ri (rt_P sc fm) 416 26 (.iload_n 2) (27) := ri_of (by decide +kernel) rfl
theorem wi_416_262 : ri (rt_P sc fm) 416 262 (.aload_n 0) (263) := ri_of (by decide +kernel) rfl
theorem wi_416_263 : ri (rt_P sc fm) 416 263 (.getfield 206) (266) := ri_of (by decide +kernel) rfl
theorem wi_416_266 : ri (rt_P sc fm) 416 266 (.iload_n 2) (267) := ri_of (by decide +kernel) rfl
theorem wi_416_267 : ri (rt_P sc fm) 416 267 (.iaload) (268) := ri_of (by decide +kernel) rfl
theorem wi_416_268 : ri (rt_P sc fm) 416 268 (.iaload) (269) := ri_of (by decide +kernel) rfl
theorem wi_416_269 : ri (rt_P sc fm) 416 269 (.invokevirtual 432) (272) := ri_of (by decide +kernel) rfl
theorem wi_416_27 : ri (rt_P sc fm) 416 27 (.iaload) (28) := ri_of (by decide +kernel) rfl
theorem wi_416_272 : ri (rt_P sc fm) 416 272 (.return_) (273) := ri_of (by decide +kernel) rfl
theorem wi_416_28 : ri (rt_P sc fm) 416 28 (.bipush 20) (30) := ri_of (by decide +kernel) rfl
theorem wi_416_30 : ri (rt_P sc fm) 416 30 (.if_icmp .ne 132) (33) := ri_of (by decide +kernel) rfl
theorem wi_416_33 : ri (rt_P sc fm) 416 33 (.aload_n 0) (34) := ri_of (by decide +kernel) rfl
theorem wi_416_34 : ri (rt_P sc fm) 416 34 (.getfield 203) (37) := ri_of (by decide +kernel) rfl
theorem wi_416_37 : ri (rt_P sc fm) 416 37 (.iload_n 2) (38) := ri_of (by decide +kernel) rfl
theorem wi_416_38 : ri (rt_P sc fm) 416 38 (.iaload) (39) := ri_of (by decide +kernel) rfl
theorem wi_416_39 : ri (rt_P sc fm) 416 39 (.istore_n 3) (40) := ri_of (by decide +kernel) rfl
theorem wi_416_4 : ri (rt_P sc fm) 416 4 (.iload_n 2) (5) := ri_of (by decide +kernel) rfl
theorem wi_416_40 : ri (rt_P sc fm) 416 40 (.aload_n 0) (41) := ri_of (by decide +kernel) rfl
theorem wi_416_41 : ri (rt_P sc fm) 416 41 (.aload_n 0) (42) := ri_of (by decide +kernel) rfl
theorem wi_416_42 : ri (rt_P sc fm) 416 42 (.getfield 90) (45) := ri_of (by decide +kernel) rfl
theorem wi_416_45 : ri (rt_P sc fm) 416 45 (.iload_n 3) (46) := ri_of (by decide +kernel) rfl
theorem wi_416_46 : ri (rt_P sc fm) 416 46 (.laload) (47) := ri_of (by decide +kernel) rfl
theorem wi_416_47 : ri (rt_P sc fm) 416 47 (.invokevirtual 468) (50) := ri_of (by decide +kernel) rfl
theorem wi_416_5 : ri (rt_P sc fm) 416 5 (.iaload) (6) := ri_of (by decide +kernel) rfl
theorem wi_416_50 : ri (rt_P sc fm) 416 50 (.istore 4) (52) := ri_of (by decide +kernel) rfl
theorem wi_416_52 : ri (rt_P sc fm) 416 52 (.iload 4) (54) := ri_of (by decide +kernel) rfl
theorem wi_416_54 : ri (rt_P sc fm) 416 54 (.ifCond .ge 15) (57) := ri_of (by decide +kernel) rfl
theorem wi_416_57 : ri (rt_P sc fm) 416 57 (.aload_n 0) (58) := ri_of (by decide +kernel) rfl
theorem wi_416_58 : ri (rt_P sc fm) 416 58 (.iconst 5) (59) := ri_of (by decide +kernel) rfl
theorem wi_416_59 : ri (rt_P sc fm) 416 59 (.aload_n 0) (60) := ri_of (by decide +kernel) rfl
theorem wi_416_6 : ri (rt_P sc fm) 416 6 (.bipush 18) (8) := ri_of (by decide +kernel) rfl
theorem wi_416_60 : ri (rt_P sc fm) 416 60 (.getfield 87) (63) := ri_of (by decide +kernel) rfl
theorem wi_416_63 : ri (rt_P sc fm) 416 63 (.iload_n 3) (64) := ri_of (by decide +kernel) rfl
theorem wi_416_64 : ri (rt_P sc fm) 416 64 (.iaload) (65) := ri_of (by decide +kernel) rfl
theorem wi_416_65 : ri (rt_P sc fm) 416 65 (.invokevirtual 432) (68) := ri_of (by decide +kernel) rfl
theorem wi_416_68 : ri (rt_P sc fm) 416 68 (.return_) (69) := ri_of (by decide +kernel) rfl
theorem wi_416_69 : ri (rt_P sc fm) 416 69 (.aload_n 0) (70) := ri_of (by decide +kernel) rfl
theorem wi_416_70 : ri (rt_P sc fm) 416 70 (.getfield 185) (73) := ri_of (by decide +kernel) rfl
theorem wi_416_73 : ri (rt_P sc fm) 416 73 (.iload_n 2) (74) := ri_of (by decide +kernel) rfl
theorem wi_416_74 : ri (rt_P sc fm) 416 74 (.iaload) (75) := ri_of (by decide +kernel) rfl
theorem wi_416_75 : ri (rt_P sc fm) 416 75 (.bipush 20) (77) := ri_of (by decide +kernel) rfl
theorem wi_416_77 : ri (rt_P sc fm) 416 77 (.if_icmp .ne 20) (80) := ri_of (by decide +kernel) rfl
theorem wi_416_8 : ri (rt_P sc fm) 416 8 (.if_icmp .eq 25) (11) := ri_of (by decide +kernel) rfl
theorem wi_416_80 : ri (rt_P sc fm) 416 80 (.aload_n 0) (81) := ri_of (by decide +kernel) rfl
theorem wi_416_81 : ri (rt_P sc fm) 416 81 (.iload 4) (83) := ri_of (by decide +kernel) rfl
theorem wi_416_83 : ri (rt_P sc fm) 416 83 (.aload_n 0) (84) := ri_of (by decide +kernel) rfl
theorem wi_416_84 : ri (rt_P sc fm) 416 84 (.getfield 90) (87) := ri_of (by decide +kernel) rfl
theorem wi_416_87 : ri (rt_P sc fm) 416 87 (.iload_n 3) (88) := ri_of (by decide +kernel) rfl
theorem wi_416_88 : ri (rt_P sc fm) 416 88 (.iconst 2) (89) := ri_of (by decide +kernel) rfl
theorem wi_416_89 : ri (rt_P sc fm) 416 89 (.iadd) (90) := ri_of (by decide +kernel) rfl
theorem wi_416_90 : ri (rt_P sc fm) 416 90 (.laload) (91) := ri_of (by decide +kernel) rfl
theorem wi_416_91 : ri (rt_P sc fm) 416 91 (.invokevirtual 620) (94) := ri_of (by decide +kernel) rfl
theorem wi_416_94 : ri (rt_P sc fm) 416 94 (.goto 17) (97) := ri_of (by decide +kernel) rfl
theorem wi_416_97 : ri (rt_P sc fm) 416 97 (.aload_n 0) (98) := ri_of (by decide +kernel) rfl
theorem wi_416_98 : ri (rt_P sc fm) 416 98 (.iload 4) (100) := ri_of (by decide +kernel) rfl
theorem wm_413 : rx_ml (rt_P sc fm) 413 = 6 := (by decide +kernel : rt_ml 413 = 6)
theorem wm_414 : rx_ml (rt_P sc fm) 414 = 6 := (by decide +kernel : rt_ml 414 = 6)
theorem wr_416 : rx_rt (rt_P sc fm) 416 = none := (by decide +kernel : rt_rt 416 = none)
/-- MarkHouseModel.findName(II)V -/
def d_416 (n : Nat) (a1 : Int32) (a2 : Int32) (c : cS) : Option (cS) :=
  if ib a2 3840 then
  jn (fun p2 : cS =>
    if ib a2 3840 then
    jn (fun p4 : Unit =>
      Option.bind (whl (R := (cS)) (fun s6 : Int32 × cS =>
        if ib a1 96 then
        if (s6.2.1 210 (ix a1)) ≤ s6.1 then
          some (.inr s6.2)
        else
          if ib ((40 * a1) + s6.1) 3840 then
          if ib a2 3840 then
          if ib (s6.2.1 218 (ix a2)) 4001 then
          jn (fun p11 : cS =>
            lt (s6.1 + 1 : Int32) (fun v13 =>
            some (.inl (v13, p11))))
          (fun j241 =>
          if (lg_cmp (s6.2.2 212 (ix ((40 * a1) + s6.1))) (s6.2.2 180 (ix (s6.2.1 218 (ix a2))))) = 0 then
            if ib a2 3840 then
            lt (pI s6.2 216 (ix a2) s6.1) (fun c16 =>
            j241 c16)
            else none
          else
            j241 s6.2)
          else none
          else none
          else none
        else none) n (0, p2))
      (fun x18 : cS =>
        if ib a2 3840 then
        jn (fun p20 : cS =>
          some p20)
        (fun j272 =>
        if 0 ≤ (x18.1 216 (ix a2)) then
          j272 x18
        else
          if ib a2 3840 then
          if ib (x18.1 218 (ix a2)) 4001 then
          Option.bind (d_97 n 5 (x18.1 179 (ix (x18.1 218 (ix a2)))) x18) (fun r23 =>
          j272 r23)
          else none
          else none)
        else none))
    (fun j196 =>
    if (p2.1 211 (ix a2)) = 27 then
      j196 ()
    else
      if ib a2 3840 then
      if (p2.1 211 (ix a2)) = 28 then
        j196 ()
      else
        if ib a2 3840 then
        if (p2.1 211 (ix a2)) = 29 then
          j196 ()
        else
          some p2
        else none
      else none)
    else none)
  (fun j162 =>
  jn (fun p26 : Unit =>
    if ib a2 3840 then
    lt ((c.1 217 (ix a2)) : Int32) (fun v29 =>
    if ib v29 4001 then
    Option.bind (d_375 n (c.2 180 (ix v29)) c) (fun v32 =>
    if 0 ≤ v32 then
      if ib a2 3840 then
      jn (fun p35 : Int32 =>
        if 0 ≤ p35 then
          if ib a2 3840 then
          lt (pI c 214 (ix a2) (p35 / 100)) (fun c38 =>
          if ib a2 3840 then
          lt (pI c38 215 (ix a2) (p35 - p35 / 100 * 100)) (fun c41 =>
          if ib a2 3840 then
          lt (pI c41 229 (ix a2) v32) (fun c44 =>
          j162 c44)
          else none)
          else none)
          else none
        else
          if ib (v29 + 2) 4001 then
          Option.bind (d_97 n 5 (c.1 179 (ix (v29 + 2))) c) (fun r47 =>
          some r47)
          else none)
      (fun j111 =>
      if (c.1 211 (ix a2)) = 20 then
        if ib (v29 + 2) 4001 then
        Option.bind (d_414 n v32 (c.2 180 (ix (v29 + 2))) c) (fun v51 =>
        j111 v51)
        else none
      else
        if ib (v29 + 2) 4001 then
        Option.bind (d_413 n v32 (c.2 180 (ix (v29 + 2))) c) (fun v49 =>
        j111 v49)
        else none)
      else none
    else
      if ib v29 4001 then
      Option.bind (d_97 n 5 (c.1 179 (ix v29)) c) (fun r53 =>
      some r53)
      else none)
    else none)
    else none)
  (fun j33 =>
  if (c.1 211 (ix a2)) = 18 then
    j33 ()
  else
    if ib a2 3840 then
    if (c.1 211 (ix a2)) = 19 then
      j33 ()
    else
      if ib a2 3840 then
      if (c.1 211 (ix a2)) = 20 then
        j33 ()
      else
        j162 c
      else none
    else none))
  else none
set_option maxRecDepth 100000 in
set_option maxHeartbeats 4000000 in
theorem sp_416 {F Lo n : Nat} {a1 : Int32} {a2 : Int32} {c y : cS} {w : cW} {K : cS → Prop} {Q : ((Option Value) ⊕ String) → List va_E → Prop} (hw : rOK fm w) (hF : 1 ≤ F) (hLo : 25 ≤ Lo)  (h : wp (d_416 n a1 a2 c) K) (hQ : ∀ r, K r → Q (.inl none) (hq false r y w)) : rs (rt_P sc fm) 416 F Lo 0 [(0, .ref 174), (1, .int a1), (2, .int a2)] [] (hq false c y w) Q := by
  unfold d_416 at h
  obtain ⟨lv, elv⟩ : ∃ lv : rx_L, lv = [(0, .ref 174), (1, .int a1), (2, .int a2)] := ⟨_, rfl⟩
  rw [← elv]
  have l0 : rx_ld lv 0 = some (.ref 174) := by rw [elv]; rfl
  have l1 : rx_ld lv 1 = some (.int a1) := by rw [elv]; rfl
  have l2 : rx_ld lv 2 = some (.int a2) := by rw [elv]; rfl
  refine rs_aldn wi_416_0 l0 ?_
  refine dq_gr wi_416_1 wf_416_185 tf_174_49 ?_
  refine rs_ildn wi_416_4 l2 ?_
  obtain ⟨g1, h⟩ := wp_gd h
  refine dq_iald wi_416_5 t_211 g1 ?_
  refine rs_pure wi_416_6 rfl ?_
  refine rs_topi (v := 18) (by decide) ?_
  refine wp_jn (B := fun p2 : cS => ∀ lv, rx_ld lv 0 = some (.ref 174) → rx_ld lv 1 = some (.int a1) → rx_ld lv 2 = some (.int a2) → rs (rt_P sc fm) 416 F Lo 162 lv [] (hq false p2 y w) Q) h (fun p2 h lv l0 l1 l2 => ?_) (fun j162 hj162 h => ?_)
  ·
    refine rs_aldn wi_416_162 l0 ?_
    refine dq_gr wi_416_163 wf_416_185 tf_174_49 ?_
    refine rs_ildn wi_416_166 l2 ?_
    obtain ⟨g3, h⟩ := wp_gd h
    refine dq_iald wi_416_167 t_211 g3 ?_
    refine rs_pure wi_416_168 rfl ?_
    refine rs_topi (v := 27) (by decide) ?_
    refine wp_jn (B := fun p4 : Unit => ∀ lv, rx_ld lv 0 = some (.ref 174) → rx_ld lv 1 = some (.int a1) → rx_ld lv 2 = some (.int a2) → rs (rt_P sc fm) 416 F Lo 196 lv [] (hq false p2 y w) Q) h (fun p4 h lv l0 l1 l2 => ?_) (fun j196 hj196 h => ?_)
    ·
      refine rs_pure wi_416_196 rfl ?_
      refine rs_topi (v := 0) (by decide) ?_
      refine dl_istn wi_416_197 rfl (fun lv l3 t5 => ?_)
      have l0 := t5 _ _ (by decide) (Or.inl rfl) l0
      have l1 := t5 _ _ (by decide) (Or.inl rfl) l1
      have l2 := t5 _ _ (by decide) (Or.inl rfl) l2
      refine whl_ex (A := fun s6 : Int32 × cS => ∀ lv, rx_ld lv 0 = some (.ref 174) → rx_ld lv 1 = some (.int a1) → rx_ld lv 2 = some (.int a2) → rx_ld lv 3 = some (.int s6.1) → rs (rt_P sc fm) 416 F Lo 198 lv [] (hq false s6.2 y w) Q) (B := (fun x18 : cS => ∀ lv, rx_ld lv 0 = some (.ref 174) → rx_ld lv 2 = some (.int a2) → rs (rt_P sc fm) 416 F Lo 247 lv [] (hq false x18 y w) Q)) ?_ ?_ _ _ (wp_bind h) _ l0 l1 l2 l3
      · intro s6 h lv l0 l1 l2 l3
        refine rs_ildn wi_416_198 l3 ?_
        refine rs_aldn wi_416_199 l0 ?_
        refine dq_gr wi_416_200 wf_416_182 tf_174_48 ?_
        refine rs_ildn wi_416_203 l1 ?_
        obtain ⟨g7, h⟩ := wp_gd h
        refine dq_iald wi_416_204 t_210 g7 ?_
        refine rs_icge (tg := 247) wi_416_205 ⟨by decide, by decide⟩ (fun q => ?_) (fun q => ?_)
        ·
          have h := wp_pos h q
          exact h _ l0 l2
        ·
          have h := wp_neg h q
          refine rs_aldn wi_416_208 l0 ?_
          refine dq_gr wi_416_209 wf_416_188 tf_174_50 ?_
          refine rs_pure wi_416_212 rfl ?_
          refine rs_topi (v := 40) (by decide) ?_
          refine rs_ildn wi_416_214 l1 ?_
          refine rs_pure wi_416_215 rfl ?_
          refine rs_ildn wi_416_216 l3 ?_
          refine rs_pure wi_416_217 rfl ?_
          obtain ⟨g8, h⟩ := wp_gd h
          refine dq_lald wi_416_218 t_212 g8 ?_
          refine rs_aldn wi_416_219 l0 ?_
          refine dq_gr wi_416_220 wf_416_90 tf_174_10 ?_
          refine rs_aldn wi_416_223 l0 ?_
          refine dq_gr wi_416_224 wf_416_206 tf_174_56 ?_
          refine rs_ildn wi_416_227 l2 ?_
          obtain ⟨g9, h⟩ := wp_gd h
          refine dq_iald wi_416_228 t_218 g9 ?_
          obtain ⟨g10, h⟩ := wp_gd h
          refine dq_lald wi_416_229 t_180 g10 ?_
          refine rs_pure wi_416_230 rfl ?_
          refine wp_jn (B := fun p11 : cS => ∀ lv, rx_ld lv 0 = some (.ref 174) → rx_ld lv 1 = some (.int a1) → rx_ld lv 2 = some (.int a2) → rx_ld lv 3 = some (.int s6.1) → rs (rt_P sc fm) 416 F Lo 241 lv [] (hq false p11 y w) Q) h (fun p11 h lv l0 l1 l2 l3 => ?_) (fun j241 hj241 h => ?_)
          ·
            obtain ⟨v13, e14, h⟩ := wp_lt h
            refine dl_inc wi_416_241 l3 rfl e14 (fun lv l3 t12 => ?_)
            have l0 := t12 _ _ (by decide) (Or.inl rfl) l0
            have l1 := t12 _ _ (by decide) (Or.inl rfl) l1
            have l2 := t12 _ _ (by decide) (Or.inl rfl) l2
            refine rs_goto (tg := 198) wi_416_244 ⟨by decide, by decide⟩ ?_
            exact h _ l0 l1 l2 l3
          refine rs_ifne (tg := 241) wi_416_231 ⟨by decide, by decide⟩ (fun q => ?_) (fun q => ?_)
          ·
            have h := wp_neg h q
            exact hj241 _ h _ l0 l1 l2 l3
          ·
            have h := wp_pos h q
            refine rs_aldn wi_416_234 l0 ?_
            refine dq_gr wi_416_235 wf_416_200 tf_174_54 ?_
            refine rs_ildn wi_416_238 l2 ?_
            refine rs_ildn wi_416_239 l3 ?_
            obtain ⟨g15, h⟩ := wp_gd h
            obtain ⟨c16, e17, h⟩ := wp_lt h
            refine dq_iast wi_416_240 t_216 g15 e17 ?_
            exact hj241 _ h _ l0 l1 l2 l3
      ·
        intro x18 h lv l0 l2
        refine rs_aldn wi_416_247 l0 ?_
        refine dq_gr wi_416_248 wf_416_200 tf_174_54 ?_
        refine rs_ildn wi_416_251 l2 ?_
        obtain ⟨g19, h⟩ := wp_gd h
        refine dq_iald wi_416_252 t_216 g19 ?_
        refine wp_jn (B := fun p20 : cS => ∀ lv, rs (rt_P sc fm) 416 F Lo 272 lv [] (hq false p20 y w) Q) h (fun p20 h lv => ?_) (fun j272 hj272 h => ?_)
        ·
          exact rs_vret wi_416_272 wr_416 (hQ p20 h)
        refine rs_ifge (tg := 272) wi_416_253 ⟨by decide, by decide⟩ (fun q => ?_) (fun q => ?_)
        ·
          have h := wp_pos h q
          exact hj272 _ h _
        ·
          have h := wp_neg h q
          refine rs_aldn wi_416_256 l0 ?_
          refine rs_pure wi_416_257 rfl ?_
          refine rs_topi (v := 5) (by decide) ?_
          refine rs_aldn wi_416_258 l0 ?_
          refine dq_gr wi_416_259 wf_416_87 tf_174_9 ?_
          refine rs_aldn wi_416_262 l0 ?_
          refine dq_gr wi_416_263 wf_416_206 tf_174_56 ?_
          refine rs_ildn wi_416_266 l2 ?_
          obtain ⟨g21, h⟩ := wp_gd h
          refine dq_iald wi_416_267 t_218 g21 ?_
          obtain ⟨g22, h⟩ := wp_gd h
          refine dq_iald wi_416_268 t_179 g22 ?_
          refine rs_V wi_416_269 wc_416_432 rfl (dq_isa tf_174_0 wa_15_97) (Nat.le_trans (by decide) hF) (ml_le wm_97 (Nat.le_trans (by decide) hLo)) rfl (sp_97 hw (Nat.le_trans (by decide : 0 ≤ 1 - 1) (Nat.sub_le_sub_right hF 1)) (ml_sub wm_97 (Nat.le_trans (by decide : 0 ≤ 25 - 22) (Nat.sub_le_sub_right hLo 22))) (wp_bind h) (fun r23 h => rs_back0 ?_))
          exact hj272 _ h _
    refine rs_iceq (tg := 196) wi_416_170 ⟨by decide, by decide⟩ (fun q => ?_) (fun q => ?_)
    ·
      have h := wp_pos h q
      exact hj196 _ h _ l0 l1 l2
    ·
      have h := wp_neg h q
      refine rs_aldn wi_416_173 l0 ?_
      refine dq_gr wi_416_174 wf_416_185 tf_174_49 ?_
      refine rs_ildn wi_416_177 l2 ?_
      obtain ⟨g24, h⟩ := wp_gd h
      refine dq_iald wi_416_178 t_211 g24 ?_
      refine rs_pure wi_416_179 rfl ?_
      refine rs_topi (v := 28) (by decide) ?_
      refine rs_iceq (tg := 196) wi_416_181 ⟨by decide, by decide⟩ (fun q => ?_) (fun q => ?_)
      ·
        have h := wp_pos h q
        exact hj196 _ h _ l0 l1 l2
      ·
        have h := wp_neg h q
        refine rs_aldn wi_416_184 l0 ?_
        refine dq_gr wi_416_185 wf_416_185 tf_174_49 ?_
        refine rs_ildn wi_416_188 l2 ?_
        obtain ⟨g25, h⟩ := wp_gd h
        refine dq_iald wi_416_189 t_211 g25 ?_
        refine rs_pure wi_416_190 rfl ?_
        refine rs_topi (v := 29) (by decide) ?_
        refine rs_iceq (tg := 196) wi_416_192 ⟨by decide, by decide⟩ (fun q => ?_) (fun q => ?_)
        ·
          have h := wp_pos h q
          exact hj196 _ h _ l0 l1 l2
        ·
          have h := wp_neg h q
          exact rs_vret wi_416_195 wr_416 (hQ p2 h)
  refine wp_jn (B := fun p26 : Unit => ∀ lv, rx_ld lv 0 = some (.ref 174) → rx_ld lv 1 = some (.int a1) → rx_ld lv 2 = some (.int a2) → rs (rt_P sc fm) 416 F Lo 33 lv [] (hq false c y w) Q) h (fun p26 h lv l0 l1 l2 => ?_) (fun j33 hj33 h => ?_)
  ·
    refine rs_aldn wi_416_33 l0 ?_
    refine dq_gr wi_416_34 wf_416_203 tf_174_55 ?_
    refine rs_ildn wi_416_37 l2 ?_
    obtain ⟨g27, h⟩ := wp_gd h
    refine dq_iald wi_416_38 t_217 g27 ?_
    obtain ⟨v29, e30, h⟩ := wp_lt h
    refine rs_topi e30 ?_
    refine dl_istn wi_416_39 rfl (fun lv l3 t28 => ?_)
    have l0 := t28 _ _ (by decide) (Or.inl rfl) l0
    have l1 := t28 _ _ (by decide) (Or.inl rfl) l1
    have l2 := t28 _ _ (by decide) (Or.inl rfl) l2
    refine rs_aldn wi_416_40 l0 ?_
    refine rs_aldn wi_416_41 l0 ?_
    refine dq_gr wi_416_42 wf_416_90 tf_174_10 ?_
    refine rs_ildn wi_416_45 l3 ?_
    obtain ⟨g31, h⟩ := wp_gd h
    refine dq_lald wi_416_46 t_180 g31 ?_
    refine rs_V wi_416_47 wc_416_468 rfl (dq_isa tf_174_0 wa_15_375) (Nat.le_trans (by decide) hF) (ml_le wm_375 (Nat.le_trans (by decide) hLo)) rfl (sp_375 hw (Nat.le_trans (by decide : 0 ≤ 1 - 1) (Nat.sub_le_sub_right hF 1)) (ml_sub wm_375 (Nat.le_trans (by decide : 0 ≤ 25 - 23) (Nat.sub_le_sub_right hLo 23))) (wp_bind h) (fun v32 h => rs_back1 ?_))
    refine dl_ist wi_416_50 rfl (fun lv l4 t33 => ?_)
    have l0 := t33 _ _ (by decide) (Or.inl rfl) l0
    have l1 := t33 _ _ (by decide) (Or.inl rfl) l1
    have l2 := t33 _ _ (by decide) (Or.inl rfl) l2
    have l3 := t33 _ _ (by decide) (Or.inl rfl) l3
    refine rs_ild wi_416_52 l4 ?_
    refine rs_ifge (tg := 69) wi_416_54 ⟨by decide, by decide⟩ (fun q => ?_) (fun q => ?_)
    ·
      have h := wp_pos h q
      refine rs_aldn wi_416_69 l0 ?_
      refine dq_gr wi_416_70 wf_416_185 tf_174_49 ?_
      refine rs_ildn wi_416_73 l2 ?_
      obtain ⟨g34, h⟩ := wp_gd h
      refine dq_iald wi_416_74 t_211 g34 ?_
      refine rs_pure wi_416_75 rfl ?_
      refine rs_topi (v := 20) (by decide) ?_
      refine wp_jn (B := fun p35 : Int32 => ∀ lv, rx_ld lv 0 = some (.ref 174) → rx_ld lv 1 = some (.int a1) → rx_ld lv 2 = some (.int a2) → rx_ld lv 3 = some (.int v29) → rx_ld lv 4 = some (.int v32) → rs (rt_P sc fm) 416 F Lo 111 lv [.int p35] (hq false c y w) Q) h (fun p35 h lv l0 l1 l2 l3 l4 => ?_) (fun j111 hj111 h => ?_)
      ·
        refine dl_ist wi_416_111 rfl (fun lv l5 t36 => ?_)
        have l0 := t36 _ _ (by decide) (Or.inl rfl) l0
        have l1 := t36 _ _ (by decide) (Or.inl rfl) l1
        have l2 := t36 _ _ (by decide) (Or.inl rfl) l2
        have l3 := t36 _ _ (by decide) (Or.inl rfl) l3
        have l4 := t36 _ _ (by decide) (Or.inl rfl) l4
        refine rs_ild wi_416_113 l5 ?_
        refine rs_ifge (tg := 132) wi_416_115 ⟨by decide, by decide⟩ (fun q => ?_) (fun q => ?_)
        ·
          have h := wp_pos h q
          refine rs_aldn wi_416_132 l0 ?_
          refine dq_gr wi_416_133 wf_416_194 tf_174_52 ?_
          refine rs_ildn wi_416_136 l2 ?_
          refine rs_ild wi_416_137 l5 ?_
          refine rs_pure wi_416_139 rfl ?_
          refine rs_topi (v := 100) (by decide) ?_
          refine dl_idiv wi_416_141 (by decide) ?_
          obtain ⟨g37, h⟩ := wp_gd h
          obtain ⟨c38, e39, h⟩ := wp_lt h
          refine dq_iast wi_416_142 t_214 g37 e39 ?_
          refine rs_aldn wi_416_143 l0 ?_
          refine dq_gr wi_416_144 wf_416_197 tf_174_53 ?_
          refine rs_ildn wi_416_147 l2 ?_
          refine rs_ild wi_416_148 l5 ?_
          refine rs_pure wi_416_150 rfl ?_
          refine rs_topi (v := 100) (by decide) ?_
          refine dl_irem wi_416_152 (by decide) ?_
          obtain ⟨g40, h⟩ := wp_gd h
          obtain ⟨c41, e42, h⟩ := wp_lt h
          refine dq_iast wi_416_153 t_215 g40 e42 ?_
          refine rs_aldn wi_416_154 l0 ?_
          refine dq_gr wi_416_155 wf_416_240 tf_174_69 ?_
          refine rs_ildn wi_416_158 l2 ?_
          refine rs_ild wi_416_159 l4 ?_
          obtain ⟨g43, h⟩ := wp_gd h
          obtain ⟨c44, e45, h⟩ := wp_lt h
          refine dq_iast wi_416_161 t_229 g43 e45 ?_
          exact hj162 _ h _ l0 l1 l2
        ·
          have h := wp_neg h q
          refine rs_aldn wi_416_118 l0 ?_
          refine rs_pure wi_416_119 rfl ?_
          refine rs_topi (v := 5) (by decide) ?_
          refine rs_aldn wi_416_120 l0 ?_
          refine dq_gr wi_416_121 wf_416_87 tf_174_9 ?_
          refine rs_ildn wi_416_124 l3 ?_
          refine rs_pure wi_416_125 rfl ?_
          refine rs_topi (v := 2) (by decide) ?_
          refine rs_pure wi_416_126 rfl ?_
          obtain ⟨g46, h⟩ := wp_gd h
          refine dq_iald wi_416_127 t_179 g46 ?_
          refine rs_V wi_416_128 wc_416_432 rfl (dq_isa tf_174_0 wa_15_97) (Nat.le_trans (by decide) hF) (ml_le wm_97 (Nat.le_trans (by decide) hLo)) rfl (sp_97 hw (Nat.le_trans (by decide : 0 ≤ 1 - 1) (Nat.sub_le_sub_right hF 1)) (ml_sub wm_97 (Nat.le_trans (by decide : 0 ≤ 25 - 22) (Nat.sub_le_sub_right hLo 22))) (wp_bind h) (fun r47 h => rs_back0 ?_))
          exact rs_vret wi_416_131 wr_416 (hQ r47 h)
      refine rs_icne (tg := 97) wi_416_77 ⟨by decide, by decide⟩ (fun q => ?_) (fun q => ?_)
      ·
        have h := wp_neg h q
        refine rs_aldn wi_416_97 l0 ?_
        refine rs_ild wi_416_98 l4 ?_
        refine rs_aldn wi_416_100 l0 ?_
        refine dq_gr wi_416_101 wf_416_90 tf_174_10 ?_
        refine rs_ildn wi_416_104 l3 ?_
        refine rs_pure wi_416_105 rfl ?_
        refine rs_topi (v := 2) (by decide) ?_
        refine rs_pure wi_416_106 rfl ?_
        obtain ⟨g48, h⟩ := wp_gd h
        refine dq_lald wi_416_107 t_180 g48 ?_
        refine rs_V wi_416_108 wc_416_623 rfl (dq_isa tf_174_0 wa_15_413) (Nat.le_trans (by decide) hF) (ml_le wm_413 (Nat.le_trans (by decide) hLo)) rfl (sp_413 hw (Nat.le_trans (by decide : 0 ≤ 1 - 1) (Nat.sub_le_sub_right hF 1)) (ml_sub wm_413 (Nat.le_trans (by decide : 0 ≤ 25 - 25) (Nat.sub_le_sub_right hLo 25))) (wp_bind h) (fun v49 h => rs_back1 ?_))
        exact hj111 _ h _ l0 l1 l2 l3 l4
      ·
        have h := wp_pos h q
        refine rs_aldn wi_416_80 l0 ?_
        refine rs_ild wi_416_81 l4 ?_
        refine rs_aldn wi_416_83 l0 ?_
        refine dq_gr wi_416_84 wf_416_90 tf_174_10 ?_
        refine rs_ildn wi_416_87 l3 ?_
        refine rs_pure wi_416_88 rfl ?_
        refine rs_topi (v := 2) (by decide) ?_
        refine rs_pure wi_416_89 rfl ?_
        obtain ⟨g50, h⟩ := wp_gd h
        refine dq_lald wi_416_90 t_180 g50 ?_
        refine rs_V wi_416_91 wc_416_620 rfl (dq_isa tf_174_0 wa_15_414) (Nat.le_trans (by decide) hF) (ml_le wm_414 (Nat.le_trans (by decide) hLo)) rfl (sp_414 hw (Nat.le_trans (by decide : 0 ≤ 1 - 1) (Nat.sub_le_sub_right hF 1)) (ml_sub wm_414 (Nat.le_trans (by decide : 0 ≤ 25 - 25) (Nat.sub_le_sub_right hLo 25))) (wp_bind h) (fun v51 h => rs_back1 ?_))
        refine rs_goto (tg := 111) wi_416_94 ⟨by decide, by decide⟩ ?_
        exact hj111 _ h _ l0 l1 l2 l3 l4
    ·
      have h := wp_neg h q
      refine rs_aldn wi_416_57 l0 ?_
      refine rs_pure wi_416_58 rfl ?_
      refine rs_topi (v := 5) (by decide) ?_
      refine rs_aldn wi_416_59 l0 ?_
      refine dq_gr wi_416_60 wf_416_87 tf_174_9 ?_
      refine rs_ildn wi_416_63 l3 ?_
      obtain ⟨g52, h⟩ := wp_gd h
      refine dq_iald wi_416_64 t_179 g52 ?_
      refine rs_V wi_416_65 wc_416_432 rfl (dq_isa tf_174_0 wa_15_97) (Nat.le_trans (by decide) hF) (ml_le wm_97 (Nat.le_trans (by decide) hLo)) rfl (sp_97 hw (Nat.le_trans (by decide : 0 ≤ 1 - 1) (Nat.sub_le_sub_right hF 1)) (ml_sub wm_97 (Nat.le_trans (by decide : 0 ≤ 25 - 22) (Nat.sub_le_sub_right hLo 22))) (wp_bind h) (fun r53 h => rs_back0 ?_))
      exact rs_vret wi_416_68 wr_416 (hQ r53 h)
  refine rs_iceq (tg := 33) wi_416_8 ⟨by decide, by decide⟩ (fun q => ?_) (fun q => ?_)
  ·
    have h := wp_pos h q
    exact hj33 _ h _ l0 l1 l2
  ·
    have h := wp_neg h q
    refine rs_aldn wi_416_11 l0 ?_
    refine dq_gr wi_416_12 wf_416_185 tf_174_49 ?_
    refine rs_ildn wi_416_15 l2 ?_
    obtain ⟨g54, h⟩ := wp_gd h
    refine dq_iald wi_416_16 t_211 g54 ?_
    refine rs_pure wi_416_17 rfl ?_
    refine rs_topi (v := 19) (by decide) ?_
    refine rs_iceq (tg := 33) wi_416_19 ⟨by decide, by decide⟩ (fun q => ?_) (fun q => ?_)
    ·
      have h := wp_pos h q
      exact hj33 _ h _ l0 l1 l2
    ·
      have h := wp_neg h q
      refine rs_aldn wi_416_22 l0 ?_
      refine dq_gr wi_416_23 wf_416_185 tf_174_49 ?_
      refine rs_ildn wi_416_26 l2 ?_
      obtain ⟨g55, h⟩ := wp_gd h
      refine dq_iald wi_416_27 t_211 g55 ?_
      refine rs_pure wi_416_28 rfl ?_
      refine rs_topi (v := 20) (by decide) ?_
      refine rs_icne (tg := 162) wi_416_30 ⟨by decide, by decide⟩ (fun q => ?_) (fun q => ?_)
      ·
        have h := wp_neg h q
        exact hj162 _ h _ l0 l1 l2
      ·
        have h := wp_pos h q
        exact hj33 _ h _ l0 l1 l2
theorem wa_15_105 : rz_cn 15 (rx_yn (rt_P sc fm) 105).cls = true := (by decide +kernel : rz_cn 15 (rt_yn 105).cls = true)
theorem wa_15_416 : rz_cn 15 (rx_yn (rt_P sc fm) 416).cls = true := (by decide +kernel : rz_cn 15 (rt_yn 416).cls = true)
theorem wc_415_614 : rx_ct (rt_P sc fm) 415 614 = some (0, 105, 1) := (by decide +kernel : rt_ct 415 614 = some (0, 105, 1))
theorem wc_415_617 : rx_ct (rt_P sc fm) 415 617 = some (0, 416, 2) := (by decide +kernel : rt_ct 415 617 = some (0, 416, 2))
theorem wf_415_182 : rx_ft (rt_P sc fm) 415 182 = some (15, 48) := (by decide +kernel : rt_ft 415 182 = some (15, 48))
theorem wf_415_409 : rx_ft (rt_P sc fm) 415 409 = some (15, 13) := (by decide +kernel : rt_ft 415 409 = some (15, 13))
theorem wi_415_0 : ri (rt_P sc fm) 415 0 (.iconst 0) (1) := ri_of (by decide +kernel) rfl
theorem wi_415_1 : ri (rt_P sc fm) 415 1 (.istore_n 1) (2) := ri_of (by decide +kernel) rfl
theorem wi_415_12 : ri (rt_P sc fm) 415 12 (.ifCond .ne 56) (15) := ri_of (by decide +kernel) rfl
theorem wi_415_15 : ri (rt_P sc fm) 415 15 (.aload_n 0) (16) := ri_of (by decide +kernel) rfl
theorem wi_415_16 : ri (rt_P sc fm) 415 16 (.iload_n 1) (17) := ri_of (by decide +kernel) rfl
theorem wi_415_17 : ri (rt_P sc fm) 415 17 (.invokevirtual 614) (20) := ri_of (by decide +kernel) rfl
theorem wi_415_2 : ri (rt_P sc fm) 415 2 (.iload_n 1) (3) := ri_of (by decide +kernel) rfl
theorem wi_415_20 : ri (rt_P sc fm) 415 20 (.ifCond .ne 6) (23) := ri_of (by decide +kernel) rfl
theorem wi_415_23 : ri (rt_P sc fm) 415 23 (.goto 39) (26) := ri_of (by decide +kernel) rfl
theorem wi_415_26 : ri (rt_P sc fm) 415 26 (.iconst 0) (27) := ri_of (by decide +kernel) rfl
theorem wi_415_27 : ri (rt_P sc fm) 415 27 (.istore_n 2) (28) := ri_of (by decide +kernel) rfl
theorem wi_415_28 : ri (rt_P sc fm) 415 28 (.iload_n 2) (29) := ri_of (by decide +kernel) rfl
theorem wi_415_29 : ri (rt_P sc fm) 415 29 (.aload_n 0) (30) := ri_of (by decide +kernel) rfl
theorem wi_415_3 : ri (rt_P sc fm) 415 3 (.bipush 96) (5) := ri_of (by decide +kernel) rfl
theorem wi_415_30 : ri (rt_P sc fm) 415 30 (.getfield 182) (33) := ri_of (by decide +kernel) rfl
theorem wi_415_33 : ri (rt_P sc fm) 415 33 (.iload_n 1) (34) := ri_of (by decide +kernel) rfl
theorem wi_415_34 : ri (rt_P sc fm) 415 34 (.iaload) (35) := ri_of (by decide +kernel) rfl
theorem wi_415_35 : ri (rt_P sc fm) 415 35 (.if_icmp .ge 27) (38) := ri_of (by decide +kernel) rfl
theorem wi_415_38 : ri (rt_P sc fm) 415 38 (.aload_n 0) (39) := ri_of (by decide +kernel) rfl
theorem wi_415_39 : ri (rt_P sc fm) 415 39 (.getfield 409) (42) := ri_of (by decide +kernel) rfl
theorem wi_415_42 : ri (rt_P sc fm) 415 42 (.ifCond .ne 20) (45) := ri_of (by decide +kernel) rfl
theorem wi_415_45 : ri (rt_P sc fm) 415 45 (.aload_n 0) (46) := ri_of (by decide +kernel) rfl
theorem wi_415_46 : ri (rt_P sc fm) 415 46 (.iload_n 1) (47) := ri_of (by decide +kernel) rfl
theorem wi_415_47 : ri (rt_P sc fm) 415 47 (.bipush 40) (49) := ri_of (by decide +kernel) rfl
theorem wi_415_49 : ri (rt_P sc fm) 415 49 (.iload_n 1) (50) := ri_of (by decide +kernel) rfl
theorem wi_415_5 : ri (rt_P sc fm) 415 5 (.if_icmp .ge 63) (8) := ri_of (by decide +kernel) rfl
theorem wi_415_50 : ri (rt_P sc fm) 415 50 (.imul) (51) := ri_of (by decide +kernel) rfl
theorem wi_415_51 : ri (rt_P sc fm) 415 51 (.iload_n 2) (52) := ri_of (by decide +kernel) rfl
theorem wi_415_52 : ri (rt_P sc fm) 415 52 (.iadd) (53) := ri_of (by decide +kernel) rfl
theorem wi_415_53 : ri (rt_P sc fm) 415 53 (.invokevirtual 617) (56) := ri_of (by decide +kernel) rfl
theorem wi_415_56 : ri (rt_P sc fm) 415 56 (.iinc 2 1) (59) := ri_of (by decide +kernel) rfl
theorem wi_415_59 : ri (rt_P sc fm) 415 59 (.goto (-31)) (62) := ri_of (by decide +kernel) rfl
theorem wi_415_62 : ri (rt_P sc fm) 415 62 (.iinc 1 1) (65) := ri_of (by decide +kernel) rfl
theorem wi_415_65 : ri (rt_P sc fm) 415 65 (.goto (-63)) (68) := ri_of (by decide +kernel) rfl
theorem wi_415_68 : ri (rt_P sc fm) 415 68 (.return_) (69) := ri_of (by decide +kernel) rfl
theorem wi_415_8 : ri (rt_P sc fm) 415 8 (.aload_n 0) (9) := ri_of (by decide +kernel) rfl
theorem wi_415_9 : ri (rt_P sc fm) 415 9 (.getfield 409) (12) := ri_of (by decide +kernel) rfl
theorem wm_105 : rx_ml (rt_P sc fm) 105 = 2 := (by decide +kernel : rt_ml 105 = 2)
theorem wm_416 : rx_ml (rt_P sc fm) 416 = 6 := (by decide +kernel : rt_ml 416 = 6)
theorem wr_415 : rx_rt (rt_P sc fm) 415 = none := (by decide +kernel : rt_rt 415 = none)
/-- MarkHouseModel.findNames()V -/
def d_415 (n : Nat)  (c : cS) : Option (cS) :=
  Option.bind (whl (R := (cS)) (fun s2 : Int32 × cS =>
    if 96 ≤ s2.1 then
      some (.inr s2.2)
    else
      if (s2.2.1 174 13) = 0 then
        Option.bind (d_105 n s2.1 s2.2) (fun v3 =>
        jn (fun p4 : cS =>
          lt (s2.1 + 1 : Int32) (fun v6 =>
          some (.inl (v6, p4))))
        (fun j62 =>
        if v3 = 0 then
          j62 s2.2
        else
          Option.bind (whl (R := (cS)) (fun s9 : Int32 × cS =>
            if ib s2.1 96 then
            if (s9.2.1 210 (ix s2.1)) ≤ s9.1 then
              some (.inr s9.2)
            else
              if (s9.2.1 174 13) = 0 then
                Option.bind (d_416 n s2.1 ((40 * s2.1) + s9.1) s9.2) (fun r11 =>
                lt (s9.1 + 1 : Int32) (fun v13 =>
                some (.inl (v13, r11))))
              else
                some (.inr s9.2)
            else none) n (0, s2.2))
          (fun x15 : cS =>
            j62 x15)))
      else
        some (.inr s2.2)) n (0, c))
  (fun x16 : cS =>
    some x16)
set_option maxRecDepth 100000 in
set_option maxHeartbeats 4000000 in
theorem sp_415 {F Lo n : Nat}  {c y : cS} {w : cW} {K : cS → Prop} {Q : ((Option Value) ⊕ String) → List va_E → Prop} (hw : rOK fm w) (hF : 2 ≤ F) (hLo : 50 ≤ Lo)  (h : wp (d_415 n  c) K) (hQ : ∀ r, K r → Q (.inl none) (hq false r y w)) : rs (rt_P sc fm) 415 F Lo 0 [(0, .ref 174)] [] (hq false c y w) Q := by
  unfold d_415 at h
  obtain ⟨lv, elv⟩ : ∃ lv : rx_L, lv = [(0, .ref 174)] := ⟨_, rfl⟩
  rw [← elv]
  have l0 : rx_ld lv 0 = some (.ref 174) := by rw [elv]; rfl
  refine rs_pure wi_415_0 rfl ?_
  refine rs_topi (v := 0) (by decide) ?_
  refine dl_istn wi_415_1 rfl (fun lv l1 t1 => ?_)
  have l0 := t1 _ _ (by decide) (Or.inl rfl) l0
  refine whl_ex (A := fun s2 : Int32 × cS => ∀ lv, rx_ld lv 0 = some (.ref 174) → rx_ld lv 1 = some (.int s2.1) → rs (rt_P sc fm) 415 F Lo 2 lv [] (hq false s2.2 y w) Q) (B := (fun x16 : cS => ∀ lv, rs (rt_P sc fm) 415 F Lo 68 lv [] (hq false x16 y w) Q)) ?_ ?_ _ _ (wp_bind h) _ l0 l1
  · intro s2 h lv l0 l1
    refine rs_ildn wi_415_2 l1 ?_
    refine rs_pure wi_415_3 rfl ?_
    refine rs_topi (v := 96) (by decide) ?_
    refine rs_icge (tg := 68) wi_415_5 ⟨by decide, by decide⟩ (fun q => ?_) (fun q => ?_)
    ·
      have h := wp_pos h q
      exact h _
    ·
      have h := wp_neg h q
      refine rs_aldn wi_415_8 l0 ?_
      refine dq_gi wi_415_9 wf_415_409 tf_174_13 ?_
      refine rs_ifne (tg := 68) wi_415_12 ⟨by decide, by decide⟩ (fun q => ?_) (fun q => ?_)
      ·
        have h := wp_neg h q
        exact h _
      ·
        have h := wp_pos h q
        refine rs_aldn wi_415_15 l0 ?_
        refine rs_ildn wi_415_16 l1 ?_
        refine rs_V wi_415_17 wc_415_614 rfl (dq_isa tf_174_0 wa_15_105) (Nat.le_trans (by decide) hF) (ml_le wm_105 (Nat.le_trans (by decide) hLo)) rfl (sp_105 hw (Nat.le_trans (by decide : 0 ≤ 2 - 1) (Nat.sub_le_sub_right hF 1)) (ml_sub wm_105 (Nat.le_trans (by decide : 0 ≤ 50 - 21) (Nat.sub_le_sub_right hLo 21))) (wp_bind h) (fun v3 h => rs_back1 ?_))
        refine wp_jn (B := fun p4 : cS => ∀ lv, rx_ld lv 0 = some (.ref 174) → rx_ld lv 1 = some (.int s2.1) → rs (rt_P sc fm) 415 F Lo 62 lv [] (hq false p4 y w) Q) h (fun p4 h lv l0 l1 => ?_) (fun j62 hj62 h => ?_)
        ·
          obtain ⟨v6, e7, h⟩ := wp_lt h
          refine dl_inc wi_415_62 l1 rfl e7 (fun lv l1 t5 => ?_)
          have l0 := t5 _ _ (by decide) (Or.inl rfl) l0
          refine rs_goto (tg := 2) wi_415_65 ⟨by decide, by decide⟩ ?_
          exact h _ l0 l1
        refine rs_ifne (tg := 26) wi_415_20 ⟨by decide, by decide⟩ (fun q => ?_) (fun q => ?_)
        ·
          have h := wp_neg h q
          refine rs_pure wi_415_26 rfl ?_
          refine rs_topi (v := 0) (by decide) ?_
          refine dl_istn wi_415_27 rfl (fun lv l2 t8 => ?_)
          have l0 := t8 _ _ (by decide) (Or.inl rfl) l0
          have l1 := t8 _ _ (by decide) (Or.inl rfl) l1
          refine whl_ex (A := fun s9 : Int32 × cS => ∀ lv, rx_ld lv 0 = some (.ref 174) → rx_ld lv 1 = some (.int s2.1) → rx_ld lv 2 = some (.int s9.1) → rs (rt_P sc fm) 415 F Lo 28 lv [] (hq false s9.2 y w) Q) (B := (fun x15 : cS => ∀ lv, rx_ld lv 0 = some (.ref 174) → rx_ld lv 1 = some (.int s2.1) → rs (rt_P sc fm) 415 F Lo 62 lv [] (hq false x15 y w) Q)) ?_ ?_ _ _ (wp_bind h) _ l0 l1 l2
          · intro s9 h lv l0 l1 l2
            refine rs_ildn wi_415_28 l2 ?_
            refine rs_aldn wi_415_29 l0 ?_
            refine dq_gr wi_415_30 wf_415_182 tf_174_48 ?_
            refine rs_ildn wi_415_33 l1 ?_
            obtain ⟨g10, h⟩ := wp_gd h
            refine dq_iald wi_415_34 t_210 g10 ?_
            refine rs_icge (tg := 62) wi_415_35 ⟨by decide, by decide⟩ (fun q => ?_) (fun q => ?_)
            ·
              have h := wp_pos h q
              exact h _ l0 l1
            ·
              have h := wp_neg h q
              refine rs_aldn wi_415_38 l0 ?_
              refine dq_gi wi_415_39 wf_415_409 tf_174_13 ?_
              refine rs_ifne (tg := 62) wi_415_42 ⟨by decide, by decide⟩ (fun q => ?_) (fun q => ?_)
              ·
                have h := wp_neg h q
                exact h _ l0 l1
              ·
                have h := wp_pos h q
                refine rs_aldn wi_415_45 l0 ?_
                refine rs_ildn wi_415_46 l1 ?_
                refine rs_pure wi_415_47 rfl ?_
                refine rs_topi (v := 40) (by decide) ?_
                refine rs_ildn wi_415_49 l1 ?_
                refine rs_pure wi_415_50 rfl ?_
                refine rs_ildn wi_415_51 l2 ?_
                refine rs_pure wi_415_52 rfl ?_
                refine rs_V wi_415_53 wc_415_617 rfl (dq_isa tf_174_0 wa_15_416) (Nat.le_trans (by decide) hF) (ml_le wm_416 (Nat.le_trans (by decide) hLo)) rfl (sp_416 hw (Nat.le_trans (by decide : 1 ≤ 2 - 1) (Nat.sub_le_sub_right hF 1)) (ml_sub wm_416 (Nat.le_trans (by decide : 25 ≤ 50 - 25) (Nat.sub_le_sub_right hLo 25))) (wp_bind h) (fun r11 h => rs_back0 ?_))
                obtain ⟨v13, e14, h⟩ := wp_lt h
                refine dl_inc wi_415_56 l2 rfl e14 (fun lv l2 t12 => ?_)
                have l0 := t12 _ _ (by decide) (Or.inl rfl) l0
                have l1 := t12 _ _ (by decide) (Or.inl rfl) l1
                refine rs_goto (tg := 28) wi_415_59 ⟨by decide, by decide⟩ ?_
                exact h _ l0 l1 l2
          ·
            intro x15 h lv l0 l1
            exact hj62 _ h _ l0 l1
        ·
          have h := wp_pos h q
          refine rs_goto (tg := 62) wi_415_23 ⟨by decide, by decide⟩ ?_
          exact hj62 _ h _ l0 l1
  ·
    intro x16 h lv
    exact rs_vret wi_415_68 wr_415 (hQ x16 h)
theorem wf_417_173 : rx_ft (rt_P sc fm) 417 173 = some (15, 45) := (by decide +kernel : rt_ft 417 173 = some (15, 45))
theorem wf_417_185 : rx_ft (rt_P sc fm) 417 185 = some (15, 49) := (by decide +kernel : rt_ft 417 185 = some (15, 49))
theorem wf_417_194 : rx_ft (rt_P sc fm) 417 194 = some (15, 52) := (by decide +kernel : rt_ft 417 194 = some (15, 52))
theorem wf_417_197 : rx_ft (rt_P sc fm) 417 197 = some (15, 53) := (by decide +kernel : rt_ft 417 197 = some (15, 53))
theorem wi_417_0 : ri (rt_P sc fm) 417 0 (.aload_n 0) (1) := ri_of (by decide +kernel) rfl
theorem wi_417_1 : ri (rt_P sc fm) 417 1 (.getfield 185) (4) := ri_of (by decide +kernel) rfl
theorem wi_417_100 : ri (rt_P sc fm) 417 100 (.iaload) (101) := ri_of (by decide +kernel) rfl
theorem wi_417_101 : ri (rt_P sc fm) 417 101 (.ireturn) (102) := ri_of (by decide +kernel) rfl
theorem wi_417_102 : ri (rt_P sc fm) 417 102 (.iconst 0) (103) := ri_of (by decide +kernel) rfl
theorem wi_417_103 : ri (rt_P sc fm) 417 103 (.ireturn) (104) := ri_of (by decide +kernel) rfl
theorem wi_417_4 : ri (rt_P sc fm) 417 4 (.iload_n 1) (5) := ri_of (by decide +kernel) rfl
theorem wi_417_5 : ri (rt_P sc fm) 417 5 (.iaload) (6) := ri_of (by decide +kernel) rfl
theorem wi_417_6 : ri (rt_P sc fm) 417 6 (.tableswitch 96 17 30 #[70, 96, 70, 74, 70, 72, 72, 72, 70, 70, 96, 70, 70, 70]) (6 + rx_len (.tableswitch 96 17 30 #[70, 96, 70, 74, 70, 72, 72, 72, 70, 70, 96, 70, 70, 70])) := ri_of (by decide +kernel) rfl
theorem wi_417_76 : ri (rt_P sc fm) 417 76 (.iconst 1) (77) := ri_of (by decide +kernel) rfl
theorem wi_417_77 : ri (rt_P sc fm) 417 77 (.ireturn) (78) := ri_of (by decide +kernel) rfl
theorem wi_417_78 : ri (rt_P sc fm) 417 78 (.iconst 2) (79) := ri_of (by decide +kernel) rfl
theorem wi_417_79 : ri (rt_P sc fm) 417 79 (.ireturn) (80) := ri_of (by decide +kernel) rfl
theorem wi_417_80 : ri (rt_P sc fm) 417 80 (.aload_n 0) (81) := ri_of (by decide +kernel) rfl
theorem wi_417_81 : ri (rt_P sc fm) 417 81 (.getfield 173) (84) := ri_of (by decide +kernel) rfl
theorem wi_417_84 : ri (rt_P sc fm) 417 84 (.bipush 8) (86) := ri_of (by decide +kernel) rfl
theorem wi_417_86 : ri (rt_P sc fm) 417 86 (.aload_n 0) (87) := ri_of (by decide +kernel) rfl
theorem wi_417_87 : ri (rt_P sc fm) 417 87 (.getfield 194) (90) := ri_of (by decide +kernel) rfl
theorem wi_417_90 : ri (rt_P sc fm) 417 90 (.iload_n 1) (91) := ri_of (by decide +kernel) rfl
theorem wi_417_91 : ri (rt_P sc fm) 417 91 (.iaload) (92) := ri_of (by decide +kernel) rfl
theorem wi_417_92 : ri (rt_P sc fm) 417 92 (.imul) (93) := ri_of (by decide +kernel) rfl
theorem wi_417_93 : ri (rt_P sc fm) 417 93 (.aload_n 0) (94) := ri_of (by decide +kernel) rfl
theorem wi_417_94 : ri (rt_P sc fm) 417 94 (.getfield 197) (97) := ri_of (by decide +kernel) rfl
theorem wi_417_97 : ri (rt_P sc fm) 417 97 (.iload_n 1) (98) := ri_of (by decide +kernel) rfl
theorem wi_417_98 : ri (rt_P sc fm) 417 98 (.iaload) (99) := ri_of (by decide +kernel) rfl
theorem wi_417_99 : ri (rt_P sc fm) 417 99 (.iadd) (100) := ri_of (by decide +kernel) rfl
theorem wr_417 : rx_rt (rt_P sc fm) 417 = (some FieldType.int) := (by decide +kernel : rt_rt 417 = (some FieldType.int))
/-- MarkHouseModel.takes(I)I -/
def d_417 (n : Nat) (a1 : Int32) (c : cS) : Option (Int32) :=
  if ib a1 3840 then
  jn (fun p2 : Unit =>
    some 1)
  (fun j76 =>
  jn (fun p3 : Unit =>
    some 0)
  (fun j102 =>
  jn (fun p4 : Unit =>
    some 2)
  (fun j78 =>
  if (c.1 211 (ix a1)) = 17 then
    j76 ()
  else
  if (c.1 211 (ix a1)) = 18 then
    j102 ()
  else
  if (c.1 211 (ix a1)) = 19 then
    j76 ()
  else
  if (c.1 211 (ix a1)) = 20 then
    if ib a1 3840 then
    if ib a1 3840 then
    if ib ((8 * (c.1 214 (ix a1))) + (c.1 215 (ix a1))) 96 then
    some (c.1 207 (ix ((8 * (c.1 214 (ix a1))) + (c.1 215 (ix a1)))))
    else none
    else none
    else none
  else
  if (c.1 211 (ix a1)) = 21 then
    j76 ()
  else
  if (c.1 211 (ix a1)) = 22 then
    j78 ()
  else
  if (c.1 211 (ix a1)) = 23 then
    j78 ()
  else
  if (c.1 211 (ix a1)) = 24 then
    j78 ()
  else
  if (c.1 211 (ix a1)) = 25 then
    j76 ()
  else
  if (c.1 211 (ix a1)) = 26 then
    j76 ()
  else
  if (c.1 211 (ix a1)) = 27 then
    j102 ()
  else
  if (c.1 211 (ix a1)) = 28 then
    j76 ()
  else
  if (c.1 211 (ix a1)) = 29 then
    j76 ()
  else
  if (c.1 211 (ix a1)) = 30 then
    j76 ()
  else
  j102 ())))
  else none
set_option maxRecDepth 100000 in
set_option maxHeartbeats 4000000 in
theorem sp_417 {F Lo n : Nat} {a1 : Int32} {c y : cS} {w : cW} {K : Int32 → Prop} {Q : ((Option Value) ⊕ String) → List va_E → Prop} (hw : rOK fm w) (hF : 0 ≤ F) (hLo : 0 ≤ Lo)  (h : wp (d_417 n a1 c) K) (hQ : ∀ r, K r → Q (.inl (some (.int r))) (hq false c y w)) : rs (rt_P sc fm) 417 F Lo 0 [(0, .ref 174), (1, .int a1)] [] (hq false c y w) Q := by
  unfold d_417 at h
  obtain ⟨lv, elv⟩ : ∃ lv : rx_L, lv = [(0, .ref 174), (1, .int a1)] := ⟨_, rfl⟩
  rw [← elv]
  have l0 : rx_ld lv 0 = some (.ref 174) := by rw [elv]; rfl
  have l1 : rx_ld lv 1 = some (.int a1) := by rw [elv]; rfl
  refine rs_aldn wi_417_0 l0 ?_
  refine dq_gr wi_417_1 wf_417_185 tf_174_49 ?_
  refine rs_ildn wi_417_4 l1 ?_
  obtain ⟨g1, h⟩ := wp_gd h
  refine dq_iald wi_417_5 t_211 g1 ?_
  refine wp_jn (B := fun p2 : Unit => ∀ lv, rs (rt_P sc fm) 417 F Lo 76 lv [] (hq false c y w) Q) h (fun p2 h lv => ?_) (fun j76 hj76 h => ?_)
  ·
    refine rs_pure wi_417_76 rfl ?_
    refine rs_topi (v := 1) (by decide) ?_
    exact rs_iret wi_417_77 wr_417 rfl (hQ 1 h)
  refine wp_jn (B := fun p3 : Unit => ∀ lv, rs (rt_P sc fm) 417 F Lo 102 lv [] (hq false c y w) Q) h (fun p3 h lv => ?_) (fun j102 hj102 h => ?_)
  ·
    refine rs_pure wi_417_102 rfl ?_
    refine rs_topi (v := 0) (by decide) ?_
    exact rs_iret wi_417_103 wr_417 rfl (hQ 0 h)
  refine wp_jn (B := fun p4 : Unit => ∀ lv, rs (rt_P sc fm) 417 F Lo 78 lv [] (hq false c y w) Q) h (fun p4 h lv => ?_) (fun j78 hj78 h => ?_)
  ·
    refine rs_pure wi_417_78 rfl ?_
    refine rs_topi (v := 2) (by decide) ?_
    exact rs_iret wi_417_79 wr_417 rfl (hQ 2 h)
  by_cases q5 : (c.1 211 (ix a1)) = 17
  ·
    have h := wp_pos h q5
    refine rs_tsk (tg := 76) (off := 70) (v := 17) wi_417_6 q5 (by decide) (by decide) ⟨by decide, by decide⟩ ?_
    exact hj76 _ h _
  have h := wp_neg h q5
  by_cases q6 : (c.1 211 (ix a1)) = 18
  ·
    have h := wp_pos h q6
    refine rs_tsk (tg := 102) (off := 96) (v := 18) wi_417_6 q6 (by decide) (by decide) ⟨by decide, by decide⟩ ?_
    exact hj102 _ h _
  have h := wp_neg h q6
  by_cases q7 : (c.1 211 (ix a1)) = 19
  ·
    have h := wp_pos h q7
    refine rs_tsk (tg := 76) (off := 70) (v := 19) wi_417_6 q7 (by decide) (by decide) ⟨by decide, by decide⟩ ?_
    exact hj76 _ h _
  have h := wp_neg h q7
  by_cases q8 : (c.1 211 (ix a1)) = 20
  ·
    have h := wp_pos h q8
    refine rs_tsk (tg := 80) (off := 74) (v := 20) wi_417_6 q8 (by decide) (by decide) ⟨by decide, by decide⟩ ?_
    refine rs_aldn wi_417_80 l0 ?_
    refine dq_gr wi_417_81 wf_417_173 tf_174_45 ?_
    refine rs_pure wi_417_84 rfl ?_
    refine rs_topi (v := 8) (by decide) ?_
    refine rs_aldn wi_417_86 l0 ?_
    refine dq_gr wi_417_87 wf_417_194 tf_174_52 ?_
    refine rs_ildn wi_417_90 l1 ?_
    obtain ⟨g9, h⟩ := wp_gd h
    refine dq_iald wi_417_91 t_214 g9 ?_
    refine rs_pure wi_417_92 rfl ?_
    refine rs_aldn wi_417_93 l0 ?_
    refine dq_gr wi_417_94 wf_417_197 tf_174_53 ?_
    refine rs_ildn wi_417_97 l1 ?_
    obtain ⟨g10, h⟩ := wp_gd h
    refine dq_iald wi_417_98 t_215 g10 ?_
    refine rs_pure wi_417_99 rfl ?_
    obtain ⟨g11, h⟩ := wp_gd h
    refine dq_iald wi_417_100 t_207 g11 ?_
    exact rs_iret wi_417_101 wr_417 rfl (hQ (c.1 207 (ix ((8 * (c.1 214 (ix a1))) + (c.1 215 (ix a1))))) h)
  have h := wp_neg h q8
  by_cases q12 : (c.1 211 (ix a1)) = 21
  ·
    have h := wp_pos h q12
    refine rs_tsk (tg := 76) (off := 70) (v := 21) wi_417_6 q12 (by decide) (by decide) ⟨by decide, by decide⟩ ?_
    exact hj76 _ h _
  have h := wp_neg h q12
  by_cases q13 : (c.1 211 (ix a1)) = 22
  ·
    have h := wp_pos h q13
    refine rs_tsk (tg := 78) (off := 72) (v := 22) wi_417_6 q13 (by decide) (by decide) ⟨by decide, by decide⟩ ?_
    exact hj78 _ h _
  have h := wp_neg h q13
  by_cases q14 : (c.1 211 (ix a1)) = 23
  ·
    have h := wp_pos h q14
    refine rs_tsk (tg := 78) (off := 72) (v := 23) wi_417_6 q14 (by decide) (by decide) ⟨by decide, by decide⟩ ?_
    exact hj78 _ h _
  have h := wp_neg h q14
  by_cases q15 : (c.1 211 (ix a1)) = 24
  ·
    have h := wp_pos h q15
    refine rs_tsk (tg := 78) (off := 72) (v := 24) wi_417_6 q15 (by decide) (by decide) ⟨by decide, by decide⟩ ?_
    exact hj78 _ h _
  have h := wp_neg h q15
  by_cases q16 : (c.1 211 (ix a1)) = 25
  ·
    have h := wp_pos h q16
    refine rs_tsk (tg := 76) (off := 70) (v := 25) wi_417_6 q16 (by decide) (by decide) ⟨by decide, by decide⟩ ?_
    exact hj76 _ h _
  have h := wp_neg h q16
  by_cases q17 : (c.1 211 (ix a1)) = 26
  ·
    have h := wp_pos h q17
    refine rs_tsk (tg := 76) (off := 70) (v := 26) wi_417_6 q17 (by decide) (by decide) ⟨by decide, by decide⟩ ?_
    exact hj76 _ h _
  have h := wp_neg h q17
  by_cases q18 : (c.1 211 (ix a1)) = 27
  ·
    have h := wp_pos h q18
    refine rs_tsk (tg := 102) (off := 96) (v := 27) wi_417_6 q18 (by decide) (by decide) ⟨by decide, by decide⟩ ?_
    exact hj102 _ h _
  have h := wp_neg h q18
  by_cases q19 : (c.1 211 (ix a1)) = 28
  ·
    have h := wp_pos h q19
    refine rs_tsk (tg := 76) (off := 70) (v := 28) wi_417_6 q19 (by decide) (by decide) ⟨by decide, by decide⟩ ?_
    exact hj76 _ h _
  have h := wp_neg h q19
  by_cases q20 : (c.1 211 (ix a1)) = 29
  ·
    have h := wp_pos h q20
    refine rs_tsk (tg := 76) (off := 70) (v := 29) wi_417_6 q20 (by decide) (by decide) ⟨by decide, by decide⟩ ?_
    exact hj76 _ h _
  have h := wp_neg h q20
  by_cases q21 : (c.1 211 (ix a1)) = 30
  ·
    have h := wp_pos h q21
    refine rs_tsk (tg := 76) (off := 70) (v := 30) wi_417_6 q21 (by decide) (by decide) ⟨by decide, by decide⟩ ?_
    exact hj76 _ h _
  have h := wp_neg h q21
  refine rs_tsd (tg := 102) wi_417_6 (rz_sw fun k k1 k2 => by
    have kk : k = 17 ∨ k = 18 ∨ k = 19 ∨ k = 20 ∨ k = 21 ∨ k = 22 ∨ k = 23 ∨ k = 24 ∨ k = 25 ∨ k = 26 ∨ k = 27 ∨ k = 28 ∨ k = 29 ∨ k = 30 := by omega
    rcases kk with rfl | rfl | rfl | rfl | rfl | rfl | rfl | rfl | rfl | rfl | rfl | rfl | rfl | rfl
    · exact q5
    · exact q6
    · exact q7
    · exact q8
    · exact q12
    · exact q13
    · exact q14
    · exact q15
    · exact q16
    · exact q17
    · exact q18
    · exact q19
    · exact q20
    · exact q21
    ) ⟨by decide, by decide⟩ ?_
  exact hj102 _ h _
theorem wf_418_185 : rx_ft (rt_P sc fm) 418 185 = some (15, 49) := (by decide +kernel : rt_ft 418 185 = some (15, 49))
theorem wi_418_0 : ri (rt_P sc fm) 418 0 (.aload_n 0) (1) := ri_of (by decide +kernel) rfl
theorem wi_418_1 : ri (rt_P sc fm) 418 1 (.getfield 185) (4) := ri_of (by decide +kernel) rfl
theorem wi_418_4 : ri (rt_P sc fm) 418 4 (.iload_n 1) (5) := ri_of (by decide +kernel) rfl
theorem wi_418_5 : ri (rt_P sc fm) 418 5 (.iaload) (6) := ri_of (by decide +kernel) rfl
theorem wi_418_6 : ri (rt_P sc fm) 418 6 (.tableswitch 86 14 30 #[82, 82, 82, 86, 82, 86, 82, 86, 82, 82, 82, 84, 86, 86, 86, 82, 82]) (6 + rx_len (.tableswitch 86 14 30 #[82, 82, 82, 86, 82, 86, 82, 86, 82, 82, 82, 84, 86, 86, 86, 82, 82])) := ri_of (by decide +kernel) rfl
theorem wi_418_88 : ri (rt_P sc fm) 418 88 (.iconst 1) (89) := ri_of (by decide +kernel) rfl
theorem wi_418_89 : ri (rt_P sc fm) 418 89 (.ireturn) (90) := ri_of (by decide +kernel) rfl
theorem wi_418_90 : ri (rt_P sc fm) 418 90 (.iconst 2) (91) := ri_of (by decide +kernel) rfl
theorem wi_418_91 : ri (rt_P sc fm) 418 91 (.ireturn) (92) := ri_of (by decide +kernel) rfl
theorem wi_418_92 : ri (rt_P sc fm) 418 92 (.iconst 0) (93) := ri_of (by decide +kernel) rfl
theorem wi_418_93 : ri (rt_P sc fm) 418 93 (.ireturn) (94) := ri_of (by decide +kernel) rfl
theorem wr_418 : rx_rt (rt_P sc fm) 418 = (some FieldType.int) := (by decide +kernel : rt_rt 418 = (some FieldType.int))
/-- MarkHouseModel.gives(I)I -/
def d_418 (n : Nat) (a1 : Int32) (c : cS) : Option (Int32) :=
  if ib a1 3840 then
  jn (fun p2 : Unit =>
    some 1)
  (fun j88 =>
  jn (fun p3 : Unit =>
    some 0)
  (fun j92 =>
  if (c.1 211 (ix a1)) = 14 then
    j88 ()
  else
  if (c.1 211 (ix a1)) = 15 then
    j88 ()
  else
  if (c.1 211 (ix a1)) = 16 then
    j88 ()
  else
  if (c.1 211 (ix a1)) = 17 then
    j92 ()
  else
  if (c.1 211 (ix a1)) = 18 then
    j88 ()
  else
  if (c.1 211 (ix a1)) = 19 then
    j92 ()
  else
  if (c.1 211 (ix a1)) = 20 then
    j88 ()
  else
  if (c.1 211 (ix a1)) = 21 then
    j92 ()
  else
  if (c.1 211 (ix a1)) = 22 then
    j88 ()
  else
  if (c.1 211 (ix a1)) = 23 then
    j88 ()
  else
  if (c.1 211 (ix a1)) = 24 then
    j88 ()
  else
  if (c.1 211 (ix a1)) = 25 then
    some 2
  else
  if (c.1 211 (ix a1)) = 26 then
    j92 ()
  else
  if (c.1 211 (ix a1)) = 27 then
    j92 ()
  else
  if (c.1 211 (ix a1)) = 28 then
    j92 ()
  else
  if (c.1 211 (ix a1)) = 29 then
    j88 ()
  else
  if (c.1 211 (ix a1)) = 30 then
    j88 ()
  else
  j92 ()))
  else none
set_option maxRecDepth 100000 in
set_option maxHeartbeats 4000000 in
theorem sp_418 {F Lo n : Nat} {a1 : Int32} {c y : cS} {w : cW} {K : Int32 → Prop} {Q : ((Option Value) ⊕ String) → List va_E → Prop} (hw : rOK fm w) (hF : 0 ≤ F) (hLo : 0 ≤ Lo)  (h : wp (d_418 n a1 c) K) (hQ : ∀ r, K r → Q (.inl (some (.int r))) (hq false c y w)) : rs (rt_P sc fm) 418 F Lo 0 [(0, .ref 174), (1, .int a1)] [] (hq false c y w) Q := by
  unfold d_418 at h
  obtain ⟨lv, elv⟩ : ∃ lv : rx_L, lv = [(0, .ref 174), (1, .int a1)] := ⟨_, rfl⟩
  rw [← elv]
  have l0 : rx_ld lv 0 = some (.ref 174) := by rw [elv]; rfl
  have l1 : rx_ld lv 1 = some (.int a1) := by rw [elv]; rfl
  refine rs_aldn wi_418_0 l0 ?_
  refine dq_gr wi_418_1 wf_418_185 tf_174_49 ?_
  refine rs_ildn wi_418_4 l1 ?_
  obtain ⟨g1, h⟩ := wp_gd h
  refine dq_iald wi_418_5 t_211 g1 ?_
  refine wp_jn (B := fun p2 : Unit => ∀ lv, rs (rt_P sc fm) 418 F Lo 88 lv [] (hq false c y w) Q) h (fun p2 h lv => ?_) (fun j88 hj88 h => ?_)
  ·
    refine rs_pure wi_418_88 rfl ?_
    refine rs_topi (v := 1) (by decide) ?_
    exact rs_iret wi_418_89 wr_418 rfl (hQ 1 h)
  refine wp_jn (B := fun p3 : Unit => ∀ lv, rs (rt_P sc fm) 418 F Lo 92 lv [] (hq false c y w) Q) h (fun p3 h lv => ?_) (fun j92 hj92 h => ?_)
  ·
    refine rs_pure wi_418_92 rfl ?_
    refine rs_topi (v := 0) (by decide) ?_
    exact rs_iret wi_418_93 wr_418 rfl (hQ 0 h)
  by_cases q4 : (c.1 211 (ix a1)) = 14
  ·
    have h := wp_pos h q4
    refine rs_tsk (tg := 88) (off := 82) (v := 14) wi_418_6 q4 (by decide) (by decide) ⟨by decide, by decide⟩ ?_
    exact hj88 _ h _
  have h := wp_neg h q4
  by_cases q5 : (c.1 211 (ix a1)) = 15
  ·
    have h := wp_pos h q5
    refine rs_tsk (tg := 88) (off := 82) (v := 15) wi_418_6 q5 (by decide) (by decide) ⟨by decide, by decide⟩ ?_
    exact hj88 _ h _
  have h := wp_neg h q5
  by_cases q6 : (c.1 211 (ix a1)) = 16
  ·
    have h := wp_pos h q6
    refine rs_tsk (tg := 88) (off := 82) (v := 16) wi_418_6 q6 (by decide) (by decide) ⟨by decide, by decide⟩ ?_
    exact hj88 _ h _
  have h := wp_neg h q6
  by_cases q7 : (c.1 211 (ix a1)) = 17
  ·
    have h := wp_pos h q7
    refine rs_tsk (tg := 92) (off := 86) (v := 17) wi_418_6 q7 (by decide) (by decide) ⟨by decide, by decide⟩ ?_
    exact hj92 _ h _
  have h := wp_neg h q7
  by_cases q8 : (c.1 211 (ix a1)) = 18
  ·
    have h := wp_pos h q8
    refine rs_tsk (tg := 88) (off := 82) (v := 18) wi_418_6 q8 (by decide) (by decide) ⟨by decide, by decide⟩ ?_
    exact hj88 _ h _
  have h := wp_neg h q8
  by_cases q9 : (c.1 211 (ix a1)) = 19
  ·
    have h := wp_pos h q9
    refine rs_tsk (tg := 92) (off := 86) (v := 19) wi_418_6 q9 (by decide) (by decide) ⟨by decide, by decide⟩ ?_
    exact hj92 _ h _
  have h := wp_neg h q9
  by_cases q10 : (c.1 211 (ix a1)) = 20
  ·
    have h := wp_pos h q10
    refine rs_tsk (tg := 88) (off := 82) (v := 20) wi_418_6 q10 (by decide) (by decide) ⟨by decide, by decide⟩ ?_
    exact hj88 _ h _
  have h := wp_neg h q10
  by_cases q11 : (c.1 211 (ix a1)) = 21
  ·
    have h := wp_pos h q11
    refine rs_tsk (tg := 92) (off := 86) (v := 21) wi_418_6 q11 (by decide) (by decide) ⟨by decide, by decide⟩ ?_
    exact hj92 _ h _
  have h := wp_neg h q11
  by_cases q12 : (c.1 211 (ix a1)) = 22
  ·
    have h := wp_pos h q12
    refine rs_tsk (tg := 88) (off := 82) (v := 22) wi_418_6 q12 (by decide) (by decide) ⟨by decide, by decide⟩ ?_
    exact hj88 _ h _
  have h := wp_neg h q12
  by_cases q13 : (c.1 211 (ix a1)) = 23
  ·
    have h := wp_pos h q13
    refine rs_tsk (tg := 88) (off := 82) (v := 23) wi_418_6 q13 (by decide) (by decide) ⟨by decide, by decide⟩ ?_
    exact hj88 _ h _
  have h := wp_neg h q13
  by_cases q14 : (c.1 211 (ix a1)) = 24
  ·
    have h := wp_pos h q14
    refine rs_tsk (tg := 88) (off := 82) (v := 24) wi_418_6 q14 (by decide) (by decide) ⟨by decide, by decide⟩ ?_
    exact hj88 _ h _
  have h := wp_neg h q14
  by_cases q15 : (c.1 211 (ix a1)) = 25
  ·
    have h := wp_pos h q15
    refine rs_tsk (tg := 90) (off := 84) (v := 25) wi_418_6 q15 (by decide) (by decide) ⟨by decide, by decide⟩ ?_
    refine rs_pure wi_418_90 rfl ?_
    refine rs_topi (v := 2) (by decide) ?_
    exact rs_iret wi_418_91 wr_418 rfl (hQ 2 h)
  have h := wp_neg h q15
  by_cases q16 : (c.1 211 (ix a1)) = 26
  ·
    have h := wp_pos h q16
    refine rs_tsk (tg := 92) (off := 86) (v := 26) wi_418_6 q16 (by decide) (by decide) ⟨by decide, by decide⟩ ?_
    exact hj92 _ h _
  have h := wp_neg h q16
  by_cases q17 : (c.1 211 (ix a1)) = 27
  ·
    have h := wp_pos h q17
    refine rs_tsk (tg := 92) (off := 86) (v := 27) wi_418_6 q17 (by decide) (by decide) ⟨by decide, by decide⟩ ?_
    exact hj92 _ h _
  have h := wp_neg h q17
  by_cases q18 : (c.1 211 (ix a1)) = 28
  ·
    have h := wp_pos h q18
    refine rs_tsk (tg := 92) (off := 86) (v := 28) wi_418_6 q18 (by decide) (by decide) ⟨by decide, by decide⟩ ?_
    exact hj92 _ h _
  have h := wp_neg h q18
  by_cases q19 : (c.1 211 (ix a1)) = 29
  ·
    have h := wp_pos h q19
    refine rs_tsk (tg := 88) (off := 82) (v := 29) wi_418_6 q19 (by decide) (by decide) ⟨by decide, by decide⟩ ?_
    exact hj88 _ h _
  have h := wp_neg h q19
  by_cases q20 : (c.1 211 (ix a1)) = 30
  ·
    have h := wp_pos h q20
    refine rs_tsk (tg := 88) (off := 82) (v := 30) wi_418_6 q20 (by decide) (by decide) ⟨by decide, by decide⟩ ?_
    exact hj88 _ h _
  have h := wp_neg h q20
  refine rs_tsd (tg := 92) wi_418_6 (rz_sw fun k k1 k2 => by
    have kk : k = 14 ∨ k = 15 ∨ k = 16 ∨ k = 17 ∨ k = 18 ∨ k = 19 ∨ k = 20 ∨ k = 21 ∨ k = 22 ∨ k = 23 ∨ k = 24 ∨ k = 25 ∨ k = 26 ∨ k = 27 ∨ k = 28 ∨ k = 29 ∨ k = 30 := by omega
    rcases kk with rfl | rfl | rfl | rfl | rfl | rfl | rfl | rfl | rfl | rfl | rfl | rfl | rfl | rfl | rfl | rfl | rfl
    · exact q4
    · exact q5
    · exact q6
    · exact q7
    · exact q8
    · exact q9
    · exact q10
    · exact q11
    · exact q12
    · exact q13
    · exact q14
    · exact q15
    · exact q16
    · exact q17
    · exact q18
    · exact q19
    · exact q20
    ) ⟨by decide, by decide⟩ ?_
  exact hj92 _ h _
theorem t_230 : ta false 230 0 3840 := ⟨rfl, by decide, by decide⟩
theorem tf_174_70 : fo false 174 15 70 (.ref 230) := ⟨_, rfl, rfl, by decide, by decide⟩
theorem wc_420_432 : rx_ct (rt_P sc fm) 420 432 = some (0, 97, 2) := (by decide +kernel : rt_ct 420 432 = some (0, 97, 2))
theorem wf_420_191 : rx_ft (rt_P sc fm) 420 191 = some (15, 51) := (by decide +kernel : rt_ft 420 191 = some (15, 51))
theorem wf_420_243 : rx_ft (rt_P sc fm) 420 243 = some (15, 70) := (by decide +kernel : rt_ft 420 243 = some (15, 70))
theorem wi_420_0 : ri (rt_P sc fm) 420 0 (.aload_n 0) (1) := ri_of (by decide +kernel) rfl
theorem wi_420_1 : ri (rt_P sc fm) 420 1 (.getfield 243) (4) := ri_of (by decide +kernel) rfl
theorem wi_420_10 : ri (rt_P sc fm) 420 10 (.getfield 243) (13) := ri_of (by decide +kernel) rfl
theorem wi_420_13 : ri (rt_P sc fm) 420 13 (.iload_n 1) (14) := ri_of (by decide +kernel) rfl
theorem wi_420_14 : ri (rt_P sc fm) 420 14 (.iaload) (15) := ri_of (by decide +kernel) rfl
theorem wi_420_15 : ri (rt_P sc fm) 420 15 (.iload_n 2) (16) := ri_of (by decide +kernel) rfl
theorem wi_420_16 : ri (rt_P sc fm) 420 16 (.if_icmp .eq 15) (19) := ri_of (by decide +kernel) rfl
theorem wi_420_19 : ri (rt_P sc fm) 420 19 (.aload_n 0) (20) := ri_of (by decide +kernel) rfl
theorem wi_420_20 : ri (rt_P sc fm) 420 20 (.bipush 8) (22) := ri_of (by decide +kernel) rfl
theorem wi_420_22 : ri (rt_P sc fm) 420 22 (.aload_n 0) (23) := ri_of (by decide +kernel) rfl
theorem wi_420_23 : ri (rt_P sc fm) 420 23 (.getfield 191) (26) := ri_of (by decide +kernel) rfl
theorem wi_420_26 : ri (rt_P sc fm) 420 26 (.iload_n 1) (27) := ri_of (by decide +kernel) rfl
theorem wi_420_27 : ri (rt_P sc fm) 420 27 (.iaload) (28) := ri_of (by decide +kernel) rfl
theorem wi_420_28 : ri (rt_P sc fm) 420 28 (.invokevirtual 432) (31) := ri_of (by decide +kernel) rfl
theorem wi_420_31 : ri (rt_P sc fm) 420 31 (.aload_n 0) (32) := ri_of (by decide +kernel) rfl
theorem wi_420_32 : ri (rt_P sc fm) 420 32 (.getfield 243) (35) := ri_of (by decide +kernel) rfl
theorem wi_420_35 : ri (rt_P sc fm) 420 35 (.iload_n 1) (36) := ri_of (by decide +kernel) rfl
theorem wi_420_36 : ri (rt_P sc fm) 420 36 (.iaload) (37) := ri_of (by decide +kernel) rfl
theorem wi_420_37 : ri (rt_P sc fm) 420 37 (.ifCond .ge 10) (40) := ri_of (by decide +kernel) rfl
theorem wi_420_4 : ri (rt_P sc fm) 420 4 (.iload_n 1) (5) := ri_of (by decide +kernel) rfl
theorem wi_420_40 : ri (rt_P sc fm) 420 40 (.aload_n 0) (41) := ri_of (by decide +kernel) rfl
theorem wi_420_41 : ri (rt_P sc fm) 420 41 (.getfield 243) (44) := ri_of (by decide +kernel) rfl
theorem wi_420_44 : ri (rt_P sc fm) 420 44 (.iload_n 1) (45) := ri_of (by decide +kernel) rfl
theorem wi_420_45 : ri (rt_P sc fm) 420 45 (.iload_n 2) (46) := ri_of (by decide +kernel) rfl
theorem wi_420_46 : ri (rt_P sc fm) 420 46 (.iastore) (47) := ri_of (by decide +kernel) rfl
theorem wi_420_47 : ri (rt_P sc fm) 420 47 (.return_) (48) := ri_of (by decide +kernel) rfl
theorem wi_420_5 : ri (rt_P sc fm) 420 5 (.iaload) (6) := ri_of (by decide +kernel) rfl
theorem wi_420_6 : ri (rt_P sc fm) 420 6 (.ifCond .lt 25) (9) := ri_of (by decide +kernel) rfl
theorem wi_420_9 : ri (rt_P sc fm) 420 9 (.aload_n 0) (10) := ri_of (by decide +kernel) rfl
theorem wr_420 : rx_rt (rt_P sc fm) 420 = none := (by decide +kernel : rt_rt 420 = none)
/-- MarkHouseModel.leads(II)V -/
def d_420 (n : Nat) (a1 : Int32) (a2 : Int32) (c : cS) : Option (cS) :=
  if ib a1 3840 then
  jn (fun p2 : cS =>
    if ib a1 3840 then
    jn (fun p4 : cS =>
      some p4)
    (fun j47 =>
    if 0 ≤ (p2.1 230 (ix a1)) then
      j47 p2
    else
      if ib a1 3840 then
      lt (pI p2 230 (ix a1) a2) (fun c6 =>
      j47 c6)
      else none)
    else none)
  (fun j31 =>
  if (c.1 230 (ix a1)) < 0 then
    j31 c
  else
    if ib a1 3840 then
    if (c.1 230 (ix a1)) = a2 then
      j31 c
    else
      if ib a1 3840 then
      Option.bind (d_97 n 8 (c.1 213 (ix a1)) c) (fun r10 =>
      j31 r10)
      else none
    else none)
  else none
set_option maxRecDepth 100000 in
set_option maxHeartbeats 4000000 in
theorem sp_420 {F Lo n : Nat} {a1 : Int32} {a2 : Int32} {c y : cS} {w : cW} {K : cS → Prop} {Q : ((Option Value) ⊕ String) → List va_E → Prop} (hw : rOK fm w) (hF : 1 ≤ F) (hLo : 22 ≤ Lo)  (h : wp (d_420 n a1 a2 c) K) (hQ : ∀ r, K r → Q (.inl none) (hq false r y w)) : rs (rt_P sc fm) 420 F Lo 0 [(0, .ref 174), (1, .int a1), (2, .int a2)] [] (hq false c y w) Q := by
  unfold d_420 at h
  obtain ⟨lv, elv⟩ : ∃ lv : rx_L, lv = [(0, .ref 174), (1, .int a1), (2, .int a2)] := ⟨_, rfl⟩
  rw [← elv]
  have l0 : rx_ld lv 0 = some (.ref 174) := by rw [elv]; rfl
  have l1 : rx_ld lv 1 = some (.int a1) := by rw [elv]; rfl
  have l2 : rx_ld lv 2 = some (.int a2) := by rw [elv]; rfl
  refine rs_aldn wi_420_0 l0 ?_
  refine dq_gr wi_420_1 wf_420_243 tf_174_70 ?_
  refine rs_ildn wi_420_4 l1 ?_
  obtain ⟨g1, h⟩ := wp_gd h
  refine dq_iald wi_420_5 t_230 g1 ?_
  refine wp_jn (B := fun p2 : cS => ∀ lv, rx_ld lv 0 = some (.ref 174) → rx_ld lv 1 = some (.int a1) → rx_ld lv 2 = some (.int a2) → rs (rt_P sc fm) 420 F Lo 31 lv [] (hq false p2 y w) Q) h (fun p2 h lv l0 l1 l2 => ?_) (fun j31 hj31 h => ?_)
  ·
    refine rs_aldn wi_420_31 l0 ?_
    refine dq_gr wi_420_32 wf_420_243 tf_174_70 ?_
    refine rs_ildn wi_420_35 l1 ?_
    obtain ⟨g3, h⟩ := wp_gd h
    refine dq_iald wi_420_36 t_230 g3 ?_
    refine wp_jn (B := fun p4 : cS => ∀ lv, rs (rt_P sc fm) 420 F Lo 47 lv [] (hq false p4 y w) Q) h (fun p4 h lv => ?_) (fun j47 hj47 h => ?_)
    ·
      exact rs_vret wi_420_47 wr_420 (hQ p4 h)
    refine rs_ifge (tg := 47) wi_420_37 ⟨by decide, by decide⟩ (fun q => ?_) (fun q => ?_)
    ·
      have h := wp_pos h q
      exact hj47 _ h _
    ·
      have h := wp_neg h q
      refine rs_aldn wi_420_40 l0 ?_
      refine dq_gr wi_420_41 wf_420_243 tf_174_70 ?_
      refine rs_ildn wi_420_44 l1 ?_
      refine rs_ildn wi_420_45 l2 ?_
      obtain ⟨g5, h⟩ := wp_gd h
      obtain ⟨c6, e7, h⟩ := wp_lt h
      refine dq_iast wi_420_46 t_230 g5 e7 ?_
      exact hj47 _ h _
  refine rs_iflt (tg := 31) wi_420_6 ⟨by decide, by decide⟩ (fun q => ?_) (fun q => ?_)
  ·
    have h := wp_pos h q
    exact hj31 _ h _ l0 l1 l2
  ·
    have h := wp_neg h q
    refine rs_aldn wi_420_9 l0 ?_
    refine dq_gr wi_420_10 wf_420_243 tf_174_70 ?_
    refine rs_ildn wi_420_13 l1 ?_
    obtain ⟨g8, h⟩ := wp_gd h
    refine dq_iald wi_420_14 t_230 g8 ?_
    refine rs_ildn wi_420_15 l2 ?_
    refine rs_iceq (tg := 31) wi_420_16 ⟨by decide, by decide⟩ (fun q => ?_) (fun q => ?_)
    ·
      have h := wp_pos h q
      exact hj31 _ h _ l0 l1 l2
    ·
      have h := wp_neg h q
      refine rs_aldn wi_420_19 l0 ?_
      refine rs_pure wi_420_20 rfl ?_
      refine rs_topi (v := 8) (by decide) ?_
      refine rs_aldn wi_420_22 l0 ?_
      refine dq_gr wi_420_23 wf_420_191 tf_174_51 ?_
      refine rs_ildn wi_420_26 l1 ?_
      obtain ⟨g9, h⟩ := wp_gd h
      refine dq_iald wi_420_27 t_213 g9 ?_
      refine rs_V wi_420_28 wc_420_432 rfl (dq_isa tf_174_0 wa_15_97) (Nat.le_trans (by decide) hF) (ml_le wm_97 (Nat.le_trans (by decide) hLo)) rfl (sp_97 hw (Nat.le_trans (by decide : 0 ≤ 1 - 1) (Nat.sub_le_sub_right hF 1)) (ml_sub wm_97 (Nat.le_trans (by decide : 0 ≤ 22 - 22) (Nat.sub_le_sub_right hLo 22))) (wp_bind h) (fun r10 h => rs_back0 ?_))
      exact hj31 _ h _ l0 l1 l2
end D54
