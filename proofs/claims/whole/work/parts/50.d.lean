/-! THE CODE AS PURE PROGRAMS, 9: by wip/whole/dc.py -/
section D50
variable {sc : Nat × (Nat → Int32)} {fm : Value}
theorem wc_208_157 : rx_ct (rt_P sc fm) 208 157 = some (11, 355, 2) := (by decide +kernel : rt_ct 208 157 = some (11, 355, 2))
theorem wf_208_105 : rx_ft (rt_P sc fm) 208 105 = some (2, 3) := (by decide +kernel : rt_ft 208 105 = some (2, 3))
theorem wf_208_15 : rx_ft (rt_P sc fm) 208 15 = some (5, 4) := (by decide +kernel : rt_ft 208 15 = some (5, 4))
theorem wf_208_164 : rx_ft (rt_P sc fm) 208 164 = some (2, 12) := (by decide +kernel : rt_ft 208 164 = some (2, 12))
theorem wf_208_45 : rx_ft (rt_P sc fm) 208 45 = some (5, 1) := (by decide +kernel : rt_ft 208 45 = some (5, 1))
theorem wf_208_76 : rx_ft (rt_P sc fm) 208 76 = some (2, 5) := (by decide +kernel : rt_ft 208 76 = some (2, 5))
theorem wf_208_79 : rx_ft (rt_P sc fm) 208 79 = some (2, 6) := (by decide +kernel : rt_ft 208 79 = some (2, 6))
theorem wi_208_0 : ri (rt_P sc fm) 208 0 (.iload_n 2) (1) := ri_of (by decide +kernel) rfl
theorem wi_208_1 : ri (rt_P sc fm) 208 1 (.ifCond .lt 26) (4) := ri_of (by decide +kernel) rfl
theorem wi_208_102 : ri (rt_P sc fm) 208 102 (.iload 4) (104) := ri_of (by decide +kernel) rfl
theorem wi_208_104 : ri (rt_P sc fm) 208 104 (.laload) (105) := ri_of (by decide +kernel) rfl
theorem wi_208_105 : ri (rt_P sc fm) 208 105 (.ldc2_w 82) (108) := ri_of (by decide +kernel) rfl
theorem wi_208_108 : ri (rt_P sc fm) 208 108 (.lcmp) (109) := ri_of (by decide +kernel) rfl
theorem wi_208_109 : ri (rt_P sc fm) 208 109 (.ifCond .eq 17) (112) := ri_of (by decide +kernel) rfl
theorem wi_208_112 : ri (rt_P sc fm) 208 112 (.aload_n 0) (113) := ri_of (by decide +kernel) rfl
theorem wi_208_113 : ri (rt_P sc fm) 208 113 (.getfield 15) (116) := ri_of (by decide +kernel) rfl
theorem wi_208_116 : ri (rt_P sc fm) 208 116 (.iload 4) (118) := ri_of (by decide +kernel) rfl
theorem wi_208_118 : ri (rt_P sc fm) 208 118 (.laload) (119) := ri_of (by decide +kernel) rfl
theorem wi_208_119 : ri (rt_P sc fm) 208 119 (.iload_n 3) (120) := ri_of (by decide +kernel) rfl
theorem wi_208_12 : ri (rt_P sc fm) 208 12 (.iload_n 1) (13) := ri_of (by decide +kernel) rfl
theorem wi_208_120 : ri (rt_P sc fm) 208 120 (.invokestatic 157) (123) := ri_of (by decide +kernel) rfl
theorem wi_208_123 : ri (rt_P sc fm) 208 123 (.goto 4) (126) := ri_of (by decide +kernel) rfl
theorem wi_208_126 : ri (rt_P sc fm) 208 126 (.iconst (-1)) (127) := ri_of (by decide +kernel) rfl
theorem wi_208_127 : ri (rt_P sc fm) 208 127 (.ireturn) (128) := ri_of (by decide +kernel) rfl
theorem wi_208_13 : ri (rt_P sc fm) 208 13 (.iaload) (14) := ri_of (by decide +kernel) rfl
theorem wi_208_14 : ri (rt_P sc fm) 208 14 (.if_icmp .ge 13) (17) := ri_of (by decide +kernel) rfl
theorem wi_208_17 : ri (rt_P sc fm) 208 17 (.iload_n 3) (18) := ri_of (by decide +kernel) rfl
theorem wi_208_18 : ri (rt_P sc fm) 208 18 (.ifCond .lt 9) (21) := ri_of (by decide +kernel) rfl
theorem wi_208_21 : ri (rt_P sc fm) 208 21 (.iload_n 3) (22) := ri_of (by decide +kernel) rfl
theorem wi_208_22 : ri (rt_P sc fm) 208 22 (.bipush 16) (24) := ri_of (by decide +kernel) rfl
theorem wi_208_24 : ri (rt_P sc fm) 208 24 (.if_icmp .lt 5) (27) := ri_of (by decide +kernel) rfl
theorem wi_208_27 : ri (rt_P sc fm) 208 27 (.iconst (-1)) (28) := ri_of (by decide +kernel) rfl
theorem wi_208_28 : ri (rt_P sc fm) 208 28 (.ireturn) (29) := ri_of (by decide +kernel) rfl
theorem wi_208_29 : ri (rt_P sc fm) 208 29 (.aload_n 0) (30) := ri_of (by decide +kernel) rfl
theorem wi_208_30 : ri (rt_P sc fm) 208 30 (.getfield 45) (33) := ri_of (by decide +kernel) rfl
theorem wi_208_33 : ri (rt_P sc fm) 208 33 (.getfield 76) (36) := ri_of (by decide +kernel) rfl
theorem wi_208_36 : ri (rt_P sc fm) 208 36 (.iload_n 1) (37) := ri_of (by decide +kernel) rfl
theorem wi_208_37 : ri (rt_P sc fm) 208 37 (.iaload) (38) := ri_of (by decide +kernel) rfl
theorem wi_208_38 : ri (rt_P sc fm) 208 38 (.iload_n 2) (39) := ri_of (by decide +kernel) rfl
theorem wi_208_39 : ri (rt_P sc fm) 208 39 (.iadd) (40) := ri_of (by decide +kernel) rfl
theorem wi_208_4 : ri (rt_P sc fm) 208 4 (.iload_n 2) (5) := ri_of (by decide +kernel) rfl
theorem wi_208_40 : ri (rt_P sc fm) 208 40 (.istore 4) (42) := ri_of (by decide +kernel) rfl
theorem wi_208_42 : ri (rt_P sc fm) 208 42 (.iload_n 3) (43) := ri_of (by decide +kernel) rfl
theorem wi_208_43 : ri (rt_P sc fm) 208 43 (.bipush 8) (45) := ri_of (by decide +kernel) rfl
theorem wi_208_45 : ri (rt_P sc fm) 208 45 (.if_icmp .ge 24) (48) := ri_of (by decide +kernel) rfl
theorem wi_208_48 : ri (rt_P sc fm) 208 48 (.iload_n 3) (49) := ri_of (by decide +kernel) rfl
theorem wi_208_49 : ri (rt_P sc fm) 208 49 (.aload_n 0) (50) := ri_of (by decide +kernel) rfl
theorem wi_208_5 : ri (rt_P sc fm) 208 5 (.aload_n 0) (6) := ri_of (by decide +kernel) rfl
theorem wi_208_50 : ri (rt_P sc fm) 208 50 (.getfield 45) (53) := ri_of (by decide +kernel) rfl
theorem wi_208_53 : ri (rt_P sc fm) 208 53 (.getfield 105) (56) := ri_of (by decide +kernel) rfl
theorem wi_208_56 : ri (rt_P sc fm) 208 56 (.iload_n 1) (57) := ri_of (by decide +kernel) rfl
theorem wi_208_57 : ri (rt_P sc fm) 208 57 (.iaload) (58) := ri_of (by decide +kernel) rfl
theorem wi_208_58 : ri (rt_P sc fm) 208 58 (.if_icmp .ge 7) (61) := ri_of (by decide +kernel) rfl
theorem wi_208_6 : ri (rt_P sc fm) 208 6 (.getfield 45) (9) := ri_of (by decide +kernel) rfl
theorem wi_208_61 : ri (rt_P sc fm) 208 61 (.iconst 1) (62) := ri_of (by decide +kernel) rfl
theorem wi_208_62 : ri (rt_P sc fm) 208 62 (.goto 29) (65) := ri_of (by decide +kernel) rfl
theorem wi_208_65 : ri (rt_P sc fm) 208 65 (.iconst 0) (66) := ri_of (by decide +kernel) rfl
theorem wi_208_66 : ri (rt_P sc fm) 208 66 (.goto 25) (69) := ri_of (by decide +kernel) rfl
theorem wi_208_69 : ri (rt_P sc fm) 208 69 (.iload_n 3) (70) := ri_of (by decide +kernel) rfl
theorem wi_208_70 : ri (rt_P sc fm) 208 70 (.bipush 8) (72) := ri_of (by decide +kernel) rfl
theorem wi_208_72 : ri (rt_P sc fm) 208 72 (.isub) (73) := ri_of (by decide +kernel) rfl
theorem wi_208_73 : ri (rt_P sc fm) 208 73 (.aload_n 0) (74) := ri_of (by decide +kernel) rfl
theorem wi_208_74 : ri (rt_P sc fm) 208 74 (.getfield 45) (77) := ri_of (by decide +kernel) rfl
theorem wi_208_77 : ri (rt_P sc fm) 208 77 (.getfield 164) (80) := ri_of (by decide +kernel) rfl
theorem wi_208_80 : ri (rt_P sc fm) 208 80 (.iload 4) (82) := ri_of (by decide +kernel) rfl
theorem wi_208_82 : ri (rt_P sc fm) 208 82 (.iaload) (83) := ri_of (by decide +kernel) rfl
theorem wi_208_83 : ri (rt_P sc fm) 208 83 (.if_icmp .ge 7) (86) := ri_of (by decide +kernel) rfl
theorem wi_208_86 : ri (rt_P sc fm) 208 86 (.iconst 1) (87) := ri_of (by decide +kernel) rfl
theorem wi_208_87 : ri (rt_P sc fm) 208 87 (.goto 4) (90) := ri_of (by decide +kernel) rfl
theorem wi_208_9 : ri (rt_P sc fm) 208 9 (.getfield 79) (12) := ri_of (by decide +kernel) rfl
theorem wi_208_90 : ri (rt_P sc fm) 208 90 (.iconst 0) (91) := ri_of (by decide +kernel) rfl
theorem wi_208_91 : ri (rt_P sc fm) 208 91 (.istore 5) (93) := ri_of (by decide +kernel) rfl
theorem wi_208_93 : ri (rt_P sc fm) 208 93 (.iload 5) (95) := ri_of (by decide +kernel) rfl
theorem wi_208_95 : ri (rt_P sc fm) 208 95 (.ifCond .eq 31) (98) := ri_of (by decide +kernel) rfl
theorem wi_208_98 : ri (rt_P sc fm) 208 98 (.aload_n 0) (99) := ri_of (by decide +kernel) rfl
theorem wi_208_99 : ri (rt_P sc fm) 208 99 (.getfield 15) (102) := ri_of (by decide +kernel) rfl
theorem wk_208_82 : rx_kt (rt_P sc fm) 208 82 = some (.long (-1)) := (by decide +kernel : rt_kt 208 82 = some (.long (-1)))
theorem wr_208 : rx_rt (rt_P sc fm) 208 = (some FieldType.int) := (by decide +kernel : rt_rt 208 = (some FieldType.int))
/-- MarkHouse$Flow.tellState(III)I -/
def d_208 (n : Nat) (a1 : Int32) (a2 : Int32) (a3 : Int32) (c : cS) : Option (Int32) :=
  jn (fun p1 : Unit =>
    some (-1))
  (fun j27 =>
  if a2 < 0 then
    j27 ()
  else
    if ib a1 96 then
    if (c.1 120 (ix a1)) ≤ a2 then
      j27 ()
    else
      if a3 < 0 then
        j27 ()
      else
        if a3 < 16 then
          if ib a1 96 then
          lt (((c.1 119 (ix a1)) + a2) : Int32) (fun v5 =>
          jn (fun p7 : Int32 =>
            jn (fun p9 : Int32 =>
              some p9)
            (fun j127 =>
            jn (fun p10 : Unit =>
              j127 (-1))
            (fun j126 =>
            if p7 = 0 then
              j126 ()
            else
              if ib v5 1024 then
              if (lg_cmp (c.2 151 (ix v5)) (-1)) = 0 then
                j126 ()
              else
                if ib v5 1024 then
                Option.bind (d_355 n (c.2 151 (ix v5)) a3) (fun v13 =>
                j127 v13)
                else none
              else none)))
          (fun j91 =>
          if 8 ≤ a3 then
            if ib v5 1024 then
            if (c.1 125 (ix v5)) ≤ (a3 - 8) then
              j91 0
            else
              j91 1
            else none
          else
            if ib a1 96 then
            if (c.1 117 (ix a1)) ≤ a3 then
              j91 0
            else
              j91 1
            else none))
          else none
        else
          j27 ()
    else none)
set_option maxRecDepth 100000 in
set_option maxHeartbeats 4000000 in
theorem sp_208 {F Lo n : Nat} {a1 : Int32} {a2 : Int32} {a3 : Int32} {c y : cS} {w : cW} {K : Int32 → Prop} {Q : ((Option Value) ⊕ String) → List va_E → Prop} (hw : rOK fm w) (hF : 1 ≤ F) (hLo : 22 ≤ Lo)  (h : wp (d_208 n a1 a2 a3 c) K) (hQ : ∀ r, K r → Q (.inl (some (.int r))) (hq true c y w)) : rs (rt_P sc fm) 208 F Lo 0 [(0, .ref 150), (1, .int a1), (2, .int a2), (3, .int a3)] [] (hq true c y w) Q := by
  unfold d_208 at h
  obtain ⟨lv, elv⟩ : ∃ lv : rx_L, lv = [(0, .ref 150), (1, .int a1), (2, .int a2), (3, .int a3)] := ⟨_, rfl⟩
  rw [← elv]
  have l0 : rx_ld lv 0 = some (.ref 150) := by rw [elv]; rfl
  have l1 : rx_ld lv 1 = some (.int a1) := by rw [elv]; rfl
  have l2 : rx_ld lv 2 = some (.int a2) := by rw [elv]; rfl
  have l3 : rx_ld lv 3 = some (.int a3) := by rw [elv]; rfl
  refine rs_ildn wi_208_0 l2 ?_
  refine wp_jn (B := fun p1 : Unit => ∀ lv, rs (rt_P sc fm) 208 F Lo 27 lv [] (hq true c y w) Q) h (fun p1 h lv => ?_) (fun j27 hj27 h => ?_)
  ·
    refine rs_pure wi_208_27 rfl ?_
    refine rs_topi (v := (-1)) (by decide) ?_
    exact rs_iret wi_208_28 wr_208 rfl (hQ (-1) h)
  refine rs_iflt (tg := 27) wi_208_1 ⟨by decide, by decide⟩ (fun q => ?_) (fun q => ?_)
  ·
    have h := wp_pos h q
    exact hj27 _ h _
  ·
    have h := wp_neg h q
    refine rs_ildn wi_208_4 l2 ?_
    refine rs_aldn wi_208_5 l0 ?_
    refine dq_gr wi_208_6 wf_208_45 tf_150_1 ?_
    refine dq_gr wi_208_9 wf_208_79 tf_114_6 ?_
    refine rs_ildn wi_208_12 l1 ?_
    obtain ⟨g2, h⟩ := wp_gd h
    refine dq_iald wi_208_13 t_120 g2 ?_
    refine rs_icge (tg := 27) wi_208_14 ⟨by decide, by decide⟩ (fun q => ?_) (fun q => ?_)
    ·
      have h := wp_pos h q
      exact hj27 _ h _
    ·
      have h := wp_neg h q
      refine rs_ildn wi_208_17 l3 ?_
      refine rs_iflt (tg := 27) wi_208_18 ⟨by decide, by decide⟩ (fun q => ?_) (fun q => ?_)
      ·
        have h := wp_pos h q
        exact hj27 _ h _
      ·
        have h := wp_neg h q
        refine rs_ildn wi_208_21 l3 ?_
        refine rs_pure wi_208_22 rfl ?_
        refine rs_topi (v := 16) (by decide) ?_
        refine rs_iclt (tg := 29) wi_208_24 ⟨by decide, by decide⟩ (fun q => ?_) (fun q => ?_)
        ·
          have h := wp_pos h q
          refine rs_aldn wi_208_29 l0 ?_
          refine dq_gr wi_208_30 wf_208_45 tf_150_1 ?_
          refine dq_gr wi_208_33 wf_208_76 tf_114_5 ?_
          refine rs_ildn wi_208_36 l1 ?_
          obtain ⟨g3, h⟩ := wp_gd h
          refine dq_iald wi_208_37 t_119 g3 ?_
          refine rs_ildn wi_208_38 l2 ?_
          refine rs_pure wi_208_39 rfl ?_
          obtain ⟨v5, e6, h⟩ := wp_lt h
          refine rs_topi e6 ?_
          refine dl_ist wi_208_40 rfl (fun lv l4 t4 => ?_)
          have l0 := t4 _ _ (by decide) (Or.inl rfl) l0
          have l1 := t4 _ _ (by decide) (Or.inl rfl) l1
          have l3 := t4 _ _ (by decide) (Or.inl rfl) l3
          refine rs_ildn wi_208_42 l3 ?_
          refine rs_pure wi_208_43 rfl ?_
          refine rs_topi (v := 8) (by decide) ?_
          refine wp_jn (B := fun p7 : Int32 => ∀ lv, rx_ld lv 0 = some (.ref 150) → rx_ld lv 3 = some (.int a3) → rx_ld lv 4 = some (.int v5) → rs (rt_P sc fm) 208 F Lo 91 lv [.int p7] (hq true c y w) Q) h (fun p7 h lv l0 l3 l4 => ?_) (fun j91 hj91 h => ?_)
          ·
            refine dl_ist wi_208_91 rfl (fun lv l5 t8 => ?_)
            have l0 := t8 _ _ (by decide) (Or.inl rfl) l0
            have l3 := t8 _ _ (by decide) (Or.inl rfl) l3
            have l4 := t8 _ _ (by decide) (Or.inl rfl) l4
            refine rs_ild wi_208_93 l5 ?_
            refine wp_jn (B := fun p9 : Int32 => ∀ lv, rs (rt_P sc fm) 208 F Lo 127 lv [.int p9] (hq true c y w) Q) h (fun p9 h lv => ?_) (fun j127 hj127 h => ?_)
            ·
              exact rs_iret wi_208_127 wr_208 rfl (hQ p9 h)
            refine wp_jn (B := fun p10 : Unit => ∀ lv, rs (rt_P sc fm) 208 F Lo 126 lv [] (hq true c y w) Q) h (fun p10 h lv => ?_) (fun j126 hj126 h => ?_)
            ·
              refine rs_pure wi_208_126 rfl ?_
              refine rs_topi (v := (-1)) (by decide) ?_
              exact hj127 _ h _
            refine rs_ifeq (tg := 126) wi_208_95 ⟨by decide, by decide⟩ (fun q => ?_) (fun q => ?_)
            ·
              have h := wp_pos h q
              exact hj126 _ h _
            ·
              have h := wp_neg h q
              refine rs_aldn wi_208_98 l0 ?_
              refine dq_gr wi_208_99 wf_208_15 tf_150_4 ?_
              refine rs_ild wi_208_102 l4 ?_
              obtain ⟨g11, h⟩ := wp_gd h
              refine dq_lald wi_208_104 t_151 g11 ?_
              refine rs_ldcl wi_208_105 wk_208_82 ?_
              refine rs_pure wi_208_108 rfl ?_
              refine rs_ifeq (tg := 126) wi_208_109 ⟨by decide, by decide⟩ (fun q => ?_) (fun q => ?_)
              ·
                have h := wp_pos h q
                exact hj126 _ h _
              ·
                have h := wp_neg h q
                refine rs_aldn wi_208_112 l0 ?_
                refine dq_gr wi_208_113 wf_208_15 tf_150_4 ?_
                refine rs_ild wi_208_116 l4 ?_
                obtain ⟨g12, h⟩ := wp_gd h
                refine dq_lald wi_208_118 t_151 g12 ?_
                refine rs_ildn wi_208_119 l3 ?_
                refine rs_SN wi_208_120 wc_208_157 rfl (Nat.le_trans (by decide) hF) (ml_le wm_355 (Nat.le_trans (by decide) hLo)) rfl (sp_355 (Nat.le_trans (by decide : 0 ≤ 1 - 1) (Nat.sub_le_sub_right hF 1)) (ml_sub wm_355 (Nat.le_trans (by decide : 0 ≤ 22 - 22) (Nat.sub_le_sub_right hLo 22))) (wp_bind h) (fun v13 h => rs_back1 ?_))
                refine rs_goto (tg := 127) wi_208_123 ⟨by decide, by decide⟩ ?_
                exact hj127 _ h _
          refine rs_icge (tg := 69) wi_208_45 ⟨by decide, by decide⟩ (fun q => ?_) (fun q => ?_)
          ·
            have h := wp_pos h q
            refine rs_ildn wi_208_69 l3 ?_
            refine rs_pure wi_208_70 rfl ?_
            refine rs_topi (v := 8) (by decide) ?_
            refine rs_pure wi_208_72 rfl ?_
            refine rs_aldn wi_208_73 l0 ?_
            refine dq_gr wi_208_74 wf_208_45 tf_150_1 ?_
            refine dq_gr wi_208_77 wf_208_164 tf_114_12 ?_
            refine rs_ild wi_208_80 l4 ?_
            obtain ⟨g14, h⟩ := wp_gd h
            refine dq_iald wi_208_82 t_125 g14 ?_
            refine rs_icge (tg := 90) wi_208_83 ⟨by decide, by decide⟩ (fun q => ?_) (fun q => ?_)
            ·
              have h := wp_pos h q
              refine rs_pure wi_208_90 rfl ?_
              refine rs_topi (v := 0) (by decide) ?_
              exact hj91 _ h _ l0 l3 l4
            ·
              have h := wp_neg h q
              refine rs_pure wi_208_86 rfl ?_
              refine rs_topi (v := 1) (by decide) ?_
              refine rs_goto (tg := 91) wi_208_87 ⟨by decide, by decide⟩ ?_
              exact hj91 _ h _ l0 l3 l4
          ·
            have h := wp_neg h q
            refine rs_ildn wi_208_48 l3 ?_
            refine rs_aldn wi_208_49 l0 ?_
            refine dq_gr wi_208_50 wf_208_45 tf_150_1 ?_
            refine dq_gr wi_208_53 wf_208_105 tf_114_3 ?_
            refine rs_ildn wi_208_56 l1 ?_
            obtain ⟨g15, h⟩ := wp_gd h
            refine dq_iald wi_208_57 t_117 g15 ?_
            refine rs_icge (tg := 65) wi_208_58 ⟨by decide, by decide⟩ (fun q => ?_) (fun q => ?_)
            ·
              have h := wp_pos h q
              refine rs_pure wi_208_65 rfl ?_
              refine rs_topi (v := 0) (by decide) ?_
              refine rs_goto (tg := 91) wi_208_66 ⟨by decide, by decide⟩ ?_
              exact hj91 _ h _ l0 l3 l4
            ·
              have h := wp_neg h q
              refine rs_pure wi_208_61 rfl ?_
              refine rs_topi (v := 1) (by decide) ?_
              refine rs_goto (tg := 91) wi_208_62 ⟨by decide, by decide⟩ ?_
              exact hj91 _ h _ l0 l3 l4
        ·
          have h := wp_neg h q
          exact hj27 _ h _
theorem wa_5_208 : rz_cn 5 (rx_yn (rt_P sc fm) 208).cls = true := (by decide +kernel : rz_cn 5 (rt_yn 208).cls = true)
theorem wc_77_146 : rx_ct (rt_P sc fm) 77 146 = some (0, 21, 1) := (by decide +kernel : rt_ct 77 146 = some (0, 21, 1))
theorem wc_77_154 : rx_ct (rt_P sc fm) 77 154 = some (0, 22, 1) := (by decide +kernel : rt_ct 77 154 = some (0, 22, 1))
theorem wc_77_302 : rx_ct (rt_P sc fm) 77 302 = some (0, 208, 3) := (by decide +kernel : rt_ct 77 302 = some (0, 208, 3))
theorem wf_77_28 : rx_ft (rt_P sc fm) 77 28 = some (14, 2) := (by decide +kernel : rt_ft 77 28 = some (14, 2))
theorem wf_77_299 : rx_ft (rt_P sc fm) 77 299 = some (5, 3) := (by decide +kernel : rt_ft 77 299 = some (5, 3))
theorem wf_77_62 : rx_ft (rt_P sc fm) 77 62 = some (14, 6) := (by decide +kernel : rt_ft 77 62 = some (14, 6))
theorem wi_77_0 : ri (rt_P sc fm) 77 0 (.aload_n 0) (1) := ri_of (by decide +kernel) rfl
theorem wi_77_1 : ri (rt_P sc fm) 77 1 (.getfield 62) (4) := ri_of (by decide +kernel) rfl
theorem wi_77_10 : ri (rt_P sc fm) 77 10 (.aload_n 0) (11) := ri_of (by decide +kernel) rfl
theorem wi_77_11 : ri (rt_P sc fm) 77 11 (.getfield 28) (14) := ri_of (by decide +kernel) rfl
theorem wi_77_14 : ri (rt_P sc fm) 77 14 (.iload_n 1) (15) := ri_of (by decide +kernel) rfl
theorem wi_77_15 : ri (rt_P sc fm) 77 15 (.invokevirtual 146) (18) := ri_of (by decide +kernel) rfl
theorem wi_77_18 : ri (rt_P sc fm) 77 18 (.iconst 2) (19) := ri_of (by decide +kernel) rfl
theorem wi_77_19 : ri (rt_P sc fm) 77 19 (.if_icmp .eq 5) (22) := ri_of (by decide +kernel) rfl
theorem wi_77_22 : ri (rt_P sc fm) 77 22 (.iconst (-1)) (23) := ri_of (by decide +kernel) rfl
theorem wi_77_23 : ri (rt_P sc fm) 77 23 (.ireturn) (24) := ri_of (by decide +kernel) rfl
theorem wi_77_24 : ri (rt_P sc fm) 77 24 (.aload_n 0) (25) := ri_of (by decide +kernel) rfl
theorem wi_77_25 : ri (rt_P sc fm) 77 25 (.getfield 62) (28) := ri_of (by decide +kernel) rfl
theorem wi_77_28 : ri (rt_P sc fm) 77 28 (.aload_n 0) (29) := ri_of (by decide +kernel) rfl
theorem wi_77_29 : ri (rt_P sc fm) 77 29 (.getfield 28) (32) := ri_of (by decide +kernel) rfl
theorem wi_77_32 : ri (rt_P sc fm) 77 32 (.iload_n 1) (33) := ri_of (by decide +kernel) rfl
theorem wi_77_33 : ri (rt_P sc fm) 77 33 (.invokevirtual 154) (36) := ri_of (by decide +kernel) rfl
theorem wi_77_36 : ri (rt_P sc fm) 77 36 (.iload_n 2) (37) := ri_of (by decide +kernel) rfl
theorem wi_77_37 : ri (rt_P sc fm) 77 37 (.iload_n 3) (38) := ri_of (by decide +kernel) rfl
theorem wi_77_38 : ri (rt_P sc fm) 77 38 (.invokevirtual 302) (41) := ri_of (by decide +kernel) rfl
theorem wi_77_4 : ri (rt_P sc fm) 77 4 (.getfield 299) (7) := ri_of (by decide +kernel) rfl
theorem wi_77_41 : ri (rt_P sc fm) 77 41 (.ireturn) (42) := ri_of (by decide +kernel) rfl
theorem wi_77_7 : ri (rt_P sc fm) 77 7 (.ifCond .lt 15) (10) := ri_of (by decide +kernel) rfl
theorem wm_208 : rx_ml (rt_P sc fm) 208 = 6 := (by decide +kernel : rt_ml 208 = 6)
theorem wr_77 : rx_rt (rt_P sc fm) 77 = (some FieldType.int) := (by decide +kernel : rt_rt 77 = (some FieldType.int))
/-- MarkHouse.state(III)I -/
def d_77 (n : Nat) (a1 : Int32) (a2 : Int32) (a3 : Int32) (c : cS) : Option (Int32) :=
  jn (fun p1 : Unit =>
    some (-1))
  (fun j22 =>
  if (c.1 150 3) < 0 then
    j22 ()
  else
    Option.bind (d_21 n a1 c) (fun v2 =>
    if v2 = 2 then
      Option.bind (d_22 n a1) (fun v3 =>
      Option.bind (d_208 n v3 a2 a3 c) (fun v4 =>
      some v4))
    else
      j22 ()))
set_option maxRecDepth 100000 in
set_option maxHeartbeats 4000000 in
theorem sp_77 {F Lo n : Nat} {a1 : Int32} {a2 : Int32} {a3 : Int32} {c y : cS} {w : cW} {K : Int32 → Prop} {Q : ((Option Value) ⊕ String) → List va_E → Prop} (hw : rOK fm w) (hF : 2 ≤ F) (hLo : 47 ≤ Lo)  (h : wp (d_77 n a1 a2 a3 c) K) (hQ : ∀ r, K r → Q (.inl (some (.int r))) (hq true c y w)) : rs (rt_P sc fm) 77 F Lo 0 [(0, .ref 0), (1, .int a1), (2, .int a2), (3, .int a3)] [] (hq true c y w) Q := by
  unfold d_77 at h
  obtain ⟨lv, elv⟩ : ∃ lv : rx_L, lv = [(0, .ref 0), (1, .int a1), (2, .int a2), (3, .int a3)] := ⟨_, rfl⟩
  rw [← elv]
  have l0 : rx_ld lv 0 = some (.ref 0) := by rw [elv]; rfl
  have l1 : rx_ld lv 1 = some (.int a1) := by rw [elv]; rfl
  have l2 : rx_ld lv 2 = some (.int a2) := by rw [elv]; rfl
  have l3 : rx_ld lv 3 = some (.int a3) := by rw [elv]; rfl
  refine rs_aldn wi_77_0 l0 ?_
  refine dq_gr wi_77_1 wf_77_62 tf_0_6 ?_
  refine dq_gi wi_77_4 wf_77_299 tf_150_3 ?_
  refine wp_jn (B := fun p1 : Unit => ∀ lv, rs (rt_P sc fm) 77 F Lo 22 lv [] (hq true c y w) Q) h (fun p1 h lv => ?_) (fun j22 hj22 h => ?_)
  ·
    refine rs_pure wi_77_22 rfl ?_
    refine rs_topi (v := (-1)) (by decide) ?_
    exact rs_iret wi_77_23 wr_77 rfl (hQ (-1) h)
  refine rs_iflt (tg := 22) wi_77_7 ⟨by decide, by decide⟩ (fun q => ?_) (fun q => ?_)
  ·
    have h := wp_pos h q
    exact hj22 _ h _
  ·
    have h := wp_neg h q
    refine rs_aldn wi_77_10 l0 ?_
    refine dq_gr wi_77_11 wf_77_28 tf_0_2 ?_
    refine rs_ildn wi_77_14 l1 ?_
    refine rs_V wi_77_15 wc_77_146 rfl (dq_isa tf_114_0 wa_2_21) (Nat.le_trans (by decide) hF) (ml_le wm_21 (Nat.le_trans (by decide) hLo)) rfl (sp_21 hw (Nat.le_trans (by decide : 1 ≤ 2 - 1) (Nat.sub_le_sub_right hF 1)) (ml_sub wm_21 (Nat.le_trans (by decide : 21 ≤ 47 - 23) (Nat.sub_le_sub_right hLo 23))) (wp_bind h) (fun v2 h => rs_back1 ?_))
    refine rs_pure wi_77_18 rfl ?_
    refine rs_topi (v := 2) (by decide) ?_
    refine rs_iceq (tg := 24) wi_77_19 ⟨by decide, by decide⟩ (fun q => ?_) (fun q => ?_)
    ·
      have h := wp_pos h q
      refine rs_aldn wi_77_24 l0 ?_
      refine dq_gr wi_77_25 wf_77_62 tf_0_6 ?_
      refine rs_aldn wi_77_28 l0 ?_
      refine dq_gr wi_77_29 wf_77_28 tf_0_2 ?_
      refine rs_ildn wi_77_32 l1 ?_
      refine rs_V wi_77_33 wc_77_154 rfl (dq_isa tf_114_0 wa_2_22) (Nat.le_trans (by decide) hF) (ml_le wm_22 (Nat.le_trans (by decide) hLo)) rfl (sp_22 (Nat.le_trans (by decide : 0 ≤ 2 - 1) (Nat.sub_le_sub_right hF 1)) (ml_sub wm_22 (Nat.le_trans (by decide : 0 ≤ 47 - 21) (Nat.sub_le_sub_right hLo 21))) (wp_bind h) (fun v3 h => rs_back1 ?_))
      refine rs_ildn wi_77_36 l2 ?_
      refine rs_ildn wi_77_37 l3 ?_
      refine rs_V wi_77_38 wc_77_302 rfl (dq_isa tf_150_0 wa_5_208) (Nat.le_trans (by decide) hF) (ml_le wm_208 (Nat.le_trans (by decide) hLo)) rfl (sp_208 hw (Nat.le_trans (by decide : 1 ≤ 2 - 1) (Nat.sub_le_sub_right hF 1)) (ml_sub wm_208 (Nat.le_trans (by decide : 22 ≤ 47 - 25) (Nat.sub_le_sub_right hLo 25))) (wp_bind h) (fun v4 h => rs_back1 ?_))
      exact rs_iret wi_77_41 wr_77 rfl (hQ v4 h)
    ·
      have h := wp_neg h q
      exact hj22 _ h _
theorem wc_191_172 : rx_ct (rt_P sc fm) 191 172 = some (0, 21, 1) := (by decide +kernel : rt_ct 191 172 = some (0, 21, 1))
theorem wf_191_15 : rx_ft (rt_P sc fm) 191 15 = some (4, 7) := (by decide +kernel : rt_ft 191 15 = some (4, 7))
theorem wf_191_184 : rx_ft (rt_P sc fm) 191 184 = some (8, 3) := (by decide +kernel : rt_ft 191 184 = some (8, 3))
theorem wf_191_21 : rx_ft (rt_P sc fm) 191 21 = some (4, 0) := (by decide +kernel : rt_ft 191 21 = some (4, 0))
theorem wf_191_25 : rx_ft (rt_P sc fm) 191 25 = some (4, 1) := (by decide +kernel : rt_ft 191 25 = some (4, 1))
theorem wf_191_43 : rx_ft (rt_P sc fm) 191 43 = some (9, 1) := (by decide +kernel : rt_ft 191 43 = some (9, 1))
theorem wf_191_56 : rx_ft (rt_P sc fm) 191 56 = some (9, 10) := (by decide +kernel : rt_ft 191 56 = some (9, 10))
theorem wf_191_9 : rx_ft (rt_P sc fm) 191 9 = some (4, 6) := (by decide +kernel : rt_ft 191 9 = some (4, 6))
theorem wi_191_0 : ri (rt_P sc fm) 191 0 (.iconst 0) (1) := ri_of (by decide +kernel) rfl
theorem wi_191_1 : ri (rt_P sc fm) 191 1 (.istore_n 2) (2) := ri_of (by decide +kernel) rfl
theorem wi_191_11 : ri (rt_P sc fm) 191 11 (.getfield 56) (14) := ri_of (by decide +kernel) rfl
theorem wi_191_14 : ri (rt_P sc fm) 191 14 (.imul) (15) := ri_of (by decide +kernel) rfl
theorem wi_191_15 : ri (rt_P sc fm) 191 15 (.if_icmp .ge 58) (18) := ri_of (by decide +kernel) rfl
theorem wi_191_18 : ri (rt_P sc fm) 191 18 (.aload_n 0) (19) := ri_of (by decide +kernel) rfl
theorem wi_191_19 : ri (rt_P sc fm) 191 19 (.getfield 25) (22) := ri_of (by decide +kernel) rfl
theorem wi_191_2 : ri (rt_P sc fm) 191 2 (.iconst 0) (3) := ri_of (by decide +kernel) rfl
theorem wi_191_22 : ri (rt_P sc fm) 191 22 (.iload_n 3) (23) := ri_of (by decide +kernel) rfl
theorem wi_191_23 : ri (rt_P sc fm) 191 23 (.invokevirtual 172) (26) := ri_of (by decide +kernel) rfl
theorem wi_191_26 : ri (rt_P sc fm) 191 26 (.ifCond .le 41) (29) := ri_of (by decide +kernel) rfl
theorem wi_191_29 : ri (rt_P sc fm) 191 29 (.aload_n 0) (30) := ri_of (by decide +kernel) rfl
theorem wi_191_3 : ri (rt_P sc fm) 191 3 (.istore_n 3) (4) := ri_of (by decide +kernel) rfl
theorem wi_191_30 : ri (rt_P sc fm) 191 30 (.getfield 9) (33) := ri_of (by decide +kernel) rfl
theorem wi_191_33 : ri (rt_P sc fm) 191 33 (.iload_n 3) (34) := ri_of (by decide +kernel) rfl
theorem wi_191_34 : ri (rt_P sc fm) 191 34 (.iconst 4) (35) := ri_of (by decide +kernel) rfl
theorem wi_191_35 : ri (rt_P sc fm) 191 35 (.imul) (36) := ri_of (by decide +kernel) rfl
theorem wi_191_36 : ri (rt_P sc fm) 191 36 (.iload_n 1) (37) := ri_of (by decide +kernel) rfl
theorem wi_191_37 : ri (rt_P sc fm) 191 37 (.iadd) (38) := ri_of (by decide +kernel) rfl
theorem wi_191_38 : ri (rt_P sc fm) 191 38 (.iaload) (39) := ri_of (by decide +kernel) rfl
theorem wi_191_39 : ri (rt_P sc fm) 191 39 (.ifCond .ge 28) (42) := ri_of (by decide +kernel) rfl
theorem wi_191_4 : ri (rt_P sc fm) 191 4 (.iload_n 3) (5) := ri_of (by decide +kernel) rfl
theorem wi_191_42 : ri (rt_P sc fm) 191 42 (.aload_n 0) (43) := ri_of (by decide +kernel) rfl
theorem wi_191_43 : ri (rt_P sc fm) 191 43 (.getfield 15) (46) := ri_of (by decide +kernel) rfl
theorem wi_191_46 : ri (rt_P sc fm) 191 46 (.iload_n 3) (47) := ri_of (by decide +kernel) rfl
theorem wi_191_47 : ri (rt_P sc fm) 191 47 (.iconst 4) (48) := ri_of (by decide +kernel) rfl
theorem wi_191_48 : ri (rt_P sc fm) 191 48 (.imul) (49) := ri_of (by decide +kernel) rfl
theorem wi_191_49 : ri (rt_P sc fm) 191 49 (.iload_n 1) (50) := ri_of (by decide +kernel) rfl
theorem wi_191_5 : ri (rt_P sc fm) 191 5 (.bipush 100) (7) := ri_of (by decide +kernel) rfl
theorem wi_191_50 : ri (rt_P sc fm) 191 50 (.iadd) (51) := ri_of (by decide +kernel) rfl
theorem wi_191_51 : ri (rt_P sc fm) 191 51 (.aload_n 0) (52) := ri_of (by decide +kernel) rfl
theorem wi_191_52 : ri (rt_P sc fm) 191 52 (.getfield 21) (55) := ri_of (by decide +kernel) rfl
theorem wi_191_55 : ri (rt_P sc fm) 191 55 (.getfield 43) (58) := ri_of (by decide +kernel) rfl
theorem wi_191_58 : ri (rt_P sc fm) 191 58 (.iload_n 1) (59) := ri_of (by decide +kernel) rfl
theorem wi_191_59 : ri (rt_P sc fm) 191 59 (.aaload) (60) := ri_of (by decide +kernel) rfl
theorem wi_191_60 : ri (rt_P sc fm) 191 60 (.getfield 184) (63) := ri_of (by decide +kernel) rfl
theorem wi_191_63 : ri (rt_P sc fm) 191 63 (.iastore) (64) := ri_of (by decide +kernel) rfl
theorem wi_191_64 : ri (rt_P sc fm) 191 64 (.iinc 2 1) (67) := ri_of (by decide +kernel) rfl
theorem wi_191_67 : ri (rt_P sc fm) 191 67 (.iinc 3 1) (70) := ri_of (by decide +kernel) rfl
theorem wi_191_7 : ri (rt_P sc fm) 191 7 (.aload_n 0) (8) := ri_of (by decide +kernel) rfl
theorem wi_191_70 : ri (rt_P sc fm) 191 70 (.goto (-66)) (73) := ri_of (by decide +kernel) rfl
theorem wi_191_73 : ri (rt_P sc fm) 191 73 (.iload_n 2) (74) := ri_of (by decide +kernel) rfl
theorem wi_191_74 : ri (rt_P sc fm) 191 74 (.ireturn) (75) := ri_of (by decide +kernel) rfl
theorem wi_191_8 : ri (rt_P sc fm) 191 8 (.getfield 21) (11) := ri_of (by decide +kernel) rfl
theorem wr_191 : rx_rt (rt_P sc fm) 191 = (some FieldType.int) := (by decide +kernel : rt_rt 191 = (some FieldType.int))
/-- MarkHouse$Effects.lowerFound(I)I -/
def d_191 (n : Nat) (a1 : Int32) (c : cS) : Option (Int32 × cS) :=
  Option.bind (whl (R := (Int32 × cS)) (fun s3 : Int32 × Int32 × cS =>
    if (100 * (s3.2.2.1 7 10)) ≤ s3.2.1 then
      some (.inr (s3.1, s3.2.2))
    else
      Option.bind (d_21 n s3.2.1 s3.2.2) (fun v4 =>
      jn (fun p5 : Int32 × cS =>
        lt (s3.2.1 + 1 : Int32) (fun v7 =>
        some (.inl (p5.1, v7, p5.2))))
      (fun j67 =>
      if v4 ≤ 0 then
        j67 (s3.1, s3.2.2)
      else
        if ib ((s3.2.1 * 4) + a1) 4800 then
        if 0 ≤ (s3.2.2.1 147 (ix ((s3.2.1 * 4) + a1))) then
          j67 (s3.1, s3.2.2)
        else
          if ib a1 4 then
          if ib ((s3.2.1 * 4) + a1) 4800 then
          lt (pI s3.2.2 148 (ix ((s3.2.1 * 4) + a1)) (s3.2.2.1 (oA (ix a1)) 3)) (fun c12 =>
          lt (s3.1 + 1 : Int32) (fun v15 =>
          j67 (v15, c12)))
          else none
          else none
        else none))) n (0, 0, c))
  (fun x17 : Int32 × cS =>
    some (x17.1, x17.2))
set_option maxRecDepth 100000 in
set_option maxHeartbeats 4000000 in
theorem sp_191 {F Lo n : Nat} {a1 : Int32} {c y : cS} {w : cW} {K : Int32 × cS → Prop} {Q : ((Option Value) ⊕ String) → List va_E → Prop} (hw : rOK fm w) (hF : 2 ≤ F) (hLo : 44 ≤ Lo)  (h : wp (d_191 n a1 c) K) (hQ : ∀ r, K r → Q (.inl (some (.int r.1))) (hq true r.2 y w)) : rs (rt_P sc fm) 191 F Lo 0 [(0, .ref 146), (1, .int a1)] [] (hq true c y w) Q := by
  unfold d_191 at h
  obtain ⟨lv, elv⟩ : ∃ lv : rx_L, lv = [(0, .ref 146), (1, .int a1)] := ⟨_, rfl⟩
  rw [← elv]
  have l0 : rx_ld lv 0 = some (.ref 146) := by rw [elv]; rfl
  have l1 : rx_ld lv 1 = some (.int a1) := by rw [elv]; rfl
  refine rs_pure wi_191_0 rfl ?_
  refine rs_topi (v := 0) (by decide) ?_
  refine dl_istn wi_191_1 rfl (fun lv l2 t1 => ?_)
  have l0 := t1 _ _ (by decide) (Or.inl rfl) l0
  have l1 := t1 _ _ (by decide) (Or.inl rfl) l1
  refine rs_pure wi_191_2 rfl ?_
  refine rs_topi (v := 0) (by decide) ?_
  refine dl_istn wi_191_3 rfl (fun lv l3 t2 => ?_)
  have l0 := t2 _ _ (by decide) (Or.inl rfl) l0
  have l1 := t2 _ _ (by decide) (Or.inl rfl) l1
  have l2 := t2 _ _ (by decide) (Or.inl rfl) l2
  refine whl_ex (A := fun s3 : Int32 × Int32 × cS => ∀ lv, rx_ld lv 0 = some (.ref 146) → rx_ld lv 1 = some (.int a1) → rx_ld lv 2 = some (.int s3.1) → rx_ld lv 3 = some (.int s3.2.1) → rs (rt_P sc fm) 191 F Lo 4 lv [] (hq true s3.2.2 y w) Q) (B := (fun x17 : Int32 × cS => ∀ lv, rx_ld lv 2 = some (.int x17.1) → rs (rt_P sc fm) 191 F Lo 73 lv [] (hq true x17.2 y w) Q)) ?_ ?_ _ _ (wp_bind h) _ l0 l1 l2 l3
  · intro s3 h lv l0 l1 l2 l3
    refine rs_ildn wi_191_4 l3 ?_
    refine rs_pure wi_191_5 rfl ?_
    refine rs_topi (v := 100) (by decide) ?_
    refine rs_aldn wi_191_7 l0 ?_
    refine dq_gr wi_191_8 wf_191_21 tf_146_0 ?_
    refine dq_gi wi_191_11 wf_191_56 tf_7_10 ?_
    refine rs_pure wi_191_14 rfl ?_
    refine rs_icge (tg := 73) wi_191_15 ⟨by decide, by decide⟩ (fun q => ?_) (fun q => ?_)
    ·
      have h := wp_pos h q
      exact h _ l2
    ·
      have h := wp_neg h q
      refine rs_aldn wi_191_18 l0 ?_
      refine dq_gr wi_191_19 wf_191_25 tf_146_1 ?_
      refine rs_ildn wi_191_22 l3 ?_
      refine rs_V wi_191_23 wc_191_172 rfl (dq_isa tf_114_0 wa_2_21) (Nat.le_trans (by decide) hF) (ml_le wm_21 (Nat.le_trans (by decide) hLo)) rfl (sp_21 hw (Nat.le_trans (by decide : 1 ≤ 2 - 1) (Nat.sub_le_sub_right hF 1)) (ml_sub wm_21 (Nat.le_trans (by decide : 21 ≤ 44 - 23) (Nat.sub_le_sub_right hLo 23))) (wp_bind h) (fun v4 h => rs_back1 ?_))
      refine wp_jn (B := fun p5 : Int32 × cS => ∀ lv, rx_ld lv 0 = some (.ref 146) → rx_ld lv 1 = some (.int a1) → rx_ld lv 2 = some (.int p5.1) → rx_ld lv 3 = some (.int s3.2.1) → rs (rt_P sc fm) 191 F Lo 67 lv [] (hq true p5.2 y w) Q) h (fun p5 h lv l0 l1 l2 l3 => ?_) (fun j67 hj67 h => ?_)
      ·
        obtain ⟨v7, e8, h⟩ := wp_lt h
        refine dl_inc wi_191_67 l3 rfl e8 (fun lv l3 t6 => ?_)
        have l0 := t6 _ _ (by decide) (Or.inl rfl) l0
        have l1 := t6 _ _ (by decide) (Or.inl rfl) l1
        have l2 := t6 _ _ (by decide) (Or.inl rfl) l2
        refine rs_goto (tg := 4) wi_191_70 ⟨by decide, by decide⟩ ?_
        exact h _ l0 l1 l2 l3
      refine rs_ifle (tg := 67) wi_191_26 ⟨by decide, by decide⟩ (fun q => ?_) (fun q => ?_)
      ·
        have h := wp_pos h q
        exact hj67 _ h _ l0 l1 l2 l3
      ·
        have h := wp_neg h q
        refine rs_aldn wi_191_29 l0 ?_
        refine dq_gr wi_191_30 wf_191_9 tf_146_6 ?_
        refine rs_ildn wi_191_33 l3 ?_
        refine rs_pure wi_191_34 rfl ?_
        refine rs_topi (v := 4) (by decide) ?_
        refine rs_pure wi_191_35 rfl ?_
        refine rs_ildn wi_191_36 l1 ?_
        refine rs_pure wi_191_37 rfl ?_
        obtain ⟨g9, h⟩ := wp_gd h
        refine dq_iald wi_191_38 t_147 g9 ?_
        refine rs_ifge (tg := 67) wi_191_39 ⟨by decide, by decide⟩ (fun q => ?_) (fun q => ?_)
        ·
          have h := wp_pos h q
          exact hj67 _ h _ l0 l1 l2 l3
        ·
          have h := wp_neg h q
          refine rs_aldn wi_191_42 l0 ?_
          refine dq_gr wi_191_43 wf_191_15 tf_146_7 ?_
          refine rs_ildn wi_191_46 l3 ?_
          refine rs_pure wi_191_47 rfl ?_
          refine rs_topi (v := 4) (by decide) ?_
          refine rs_pure wi_191_48 rfl ?_
          refine rs_ildn wi_191_49 l1 ?_
          refine rs_pure wi_191_50 rfl ?_
          refine rs_aldn wi_191_51 l0 ?_
          refine dq_gr wi_191_52 wf_191_21 tf_146_0 ?_
          refine dq_gr wi_191_55 wf_191_43 tf_7_1 ?_
          refine rs_ildn wi_191_58 l1 ?_
          obtain ⟨g10, h⟩ := wp_gd h
          refine dq_aald wi_191_59 (by decide) t_8 g10 (hw.1 _ (ib_lt g10)) ?_
          refine dq_gi wi_191_60 wf_191_184 (fO_3 (ib_lt g10)) ?_
          obtain ⟨g11, h⟩ := wp_gd h
          obtain ⟨c12, e13, h⟩ := wp_lt h
          refine dq_iast wi_191_63 t_148 g11 e13 ?_
          obtain ⟨v15, e16, h⟩ := wp_lt h
          refine dl_inc wi_191_64 l2 rfl e16 (fun lv l2 t14 => ?_)
          have l0 := t14 _ _ (by decide) (Or.inl rfl) l0
          have l1 := t14 _ _ (by decide) (Or.inl rfl) l1
          have l3 := t14 _ _ (by decide) (Or.inl rfl) l3
          exact hj67 _ h _ l0 l1 l2 l3
  ·
    intro x17 h lv l2
    refine rs_ildn wi_191_73 l2 ?_
    exact rs_iret wi_191_74 wr_191 rfl (hQ (x17.1, x17.2) h)
theorem wc_192_187 : rx_ct (rt_P sc fm) 192 187 = some (0, 238, 2) := (by decide +kernel : rt_ct 192 187 = some (0, 238, 2))
theorem wf_192_15 : rx_ft (rt_P sc fm) 192 15 = some (4, 7) := (by decide +kernel : rt_ft 192 15 = some (4, 7))
theorem wf_192_21 : rx_ft (rt_P sc fm) 192 21 = some (4, 0) := (by decide +kernel : rt_ft 192 21 = some (4, 0))
theorem wf_192_43 : rx_ft (rt_P sc fm) 192 43 = some (9, 1) := (by decide +kernel : rt_ft 192 43 = some (9, 1))
theorem wf_192_9 : rx_ft (rt_P sc fm) 192 9 = some (4, 6) := (by decide +kernel : rt_ft 192 9 = some (4, 6))
theorem wi_192_0 : ri (rt_P sc fm) 192 0 (.iload_n 1) (1) := ri_of (by decide +kernel) rfl
theorem wi_192_1 : ri (rt_P sc fm) 192 1 (.iconst 4) (2) := ri_of (by decide +kernel) rfl
theorem wi_192_11 : ri (rt_P sc fm) 192 11 (.getfield 43) (14) := ri_of (by decide +kernel) rfl
theorem wi_192_14 : ri (rt_P sc fm) 192 14 (.iload_n 2) (15) := ri_of (by decide +kernel) rfl
theorem wi_192_15 : ri (rt_P sc fm) 192 15 (.aaload) (16) := ri_of (by decide +kernel) rfl
theorem wi_192_16 : ri (rt_P sc fm) 192 16 (.aload_n 0) (17) := ri_of (by decide +kernel) rfl
theorem wi_192_17 : ri (rt_P sc fm) 192 17 (.getfield 15) (20) := ri_of (by decide +kernel) rfl
theorem wi_192_2 : ri (rt_P sc fm) 192 2 (.imul) (3) := ri_of (by decide +kernel) rfl
theorem wi_192_20 : ri (rt_P sc fm) 192 20 (.iload 4) (22) := ri_of (by decide +kernel) rfl
theorem wi_192_22 : ri (rt_P sc fm) 192 22 (.iaload) (23) := ri_of (by decide +kernel) rfl
theorem wi_192_23 : ri (rt_P sc fm) 192 23 (.iload_n 3) (24) := ri_of (by decide +kernel) rfl
theorem wi_192_24 : ri (rt_P sc fm) 192 24 (.invokevirtual 187) (27) := ri_of (by decide +kernel) rfl
theorem wi_192_27 : ri (rt_P sc fm) 192 27 (.istore 5) (29) := ri_of (by decide +kernel) rfl
theorem wi_192_29 : ri (rt_P sc fm) 192 29 (.aload_n 0) (30) := ri_of (by decide +kernel) rfl
theorem wi_192_3 : ri (rt_P sc fm) 192 3 (.iload_n 2) (4) := ri_of (by decide +kernel) rfl
theorem wi_192_30 : ri (rt_P sc fm) 192 30 (.getfield 9) (33) := ri_of (by decide +kernel) rfl
theorem wi_192_33 : ri (rt_P sc fm) 192 33 (.iload 4) (35) := ri_of (by decide +kernel) rfl
theorem wi_192_35 : ri (rt_P sc fm) 192 35 (.iaload) (36) := ri_of (by decide +kernel) rfl
theorem wi_192_36 : ri (rt_P sc fm) 192 36 (.ifCond .ge 15) (39) := ri_of (by decide +kernel) rfl
theorem wi_192_39 : ri (rt_P sc fm) 192 39 (.iload 5) (41) := ri_of (by decide +kernel) rfl
theorem wi_192_4 : ri (rt_P sc fm) 192 4 (.iadd) (5) := ri_of (by decide +kernel) rfl
theorem wi_192_41 : ri (rt_P sc fm) 192 41 (.aload_n 0) (42) := ri_of (by decide +kernel) rfl
theorem wi_192_42 : ri (rt_P sc fm) 192 42 (.getfield 15) (45) := ri_of (by decide +kernel) rfl
theorem wi_192_45 : ri (rt_P sc fm) 192 45 (.iload 4) (47) := ri_of (by decide +kernel) rfl
theorem wi_192_47 : ri (rt_P sc fm) 192 47 (.iaload) (48) := ri_of (by decide +kernel) rfl
theorem wi_192_48 : ri (rt_P sc fm) 192 48 (.if_icmp .ne 5) (51) := ri_of (by decide +kernel) rfl
theorem wi_192_5 : ri (rt_P sc fm) 192 5 (.istore 4) (7) := ri_of (by decide +kernel) rfl
theorem wi_192_51 : ri (rt_P sc fm) 192 51 (.iconst 0) (52) := ri_of (by decide +kernel) rfl
theorem wi_192_52 : ri (rt_P sc fm) 192 52 (.ireturn) (53) := ri_of (by decide +kernel) rfl
theorem wi_192_53 : ri (rt_P sc fm) 192 53 (.aload_n 0) (54) := ri_of (by decide +kernel) rfl
theorem wi_192_54 : ri (rt_P sc fm) 192 54 (.getfield 15) (57) := ri_of (by decide +kernel) rfl
theorem wi_192_57 : ri (rt_P sc fm) 192 57 (.iload 4) (59) := ri_of (by decide +kernel) rfl
theorem wi_192_59 : ri (rt_P sc fm) 192 59 (.iload 5) (61) := ri_of (by decide +kernel) rfl
theorem wi_192_61 : ri (rt_P sc fm) 192 61 (.iastore) (62) := ri_of (by decide +kernel) rfl
theorem wi_192_62 : ri (rt_P sc fm) 192 62 (.iconst 1) (63) := ri_of (by decide +kernel) rfl
theorem wi_192_63 : ri (rt_P sc fm) 192 63 (.ireturn) (64) := ri_of (by decide +kernel) rfl
theorem wi_192_7 : ri (rt_P sc fm) 192 7 (.aload_n 0) (8) := ri_of (by decide +kernel) rfl
theorem wi_192_8 : ri (rt_P sc fm) 192 8 (.getfield 21) (11) := ri_of (by decide +kernel) rfl
theorem wr_192 : rx_rt (rt_P sc fm) 192 = (some FieldType.boolean) := (by decide +kernel : rt_rt 192 = (some FieldType.boolean))
/-- MarkHouse$Effects.raise(III)Z -/
def d_192 (n : Nat) (a1 : Int32) (a2 : Int32) (a3 : Int32) (c : cS) : Option (Int32 × cS) :=
  lt (((a1 * 4) + a2) : Int32) (fun v2 =>
  if ib a2 4 then
  if ib v2 4800 then
  Option.bind (d_238 n (ix a2) (c.1 148 (ix v2)) a3 c) (fun v6 =>
  if ib v2 4800 then
  jn (fun p9 : Unit =>
    some (0, c))
  (fun j51 =>
  if 0 ≤ (c.1 147 (ix v2)) then
    j51 ()
  else
    if ib v2 4800 then
    if v6 = (c.1 148 (ix v2)) then
      j51 ()
    else
      if ib v2 4800 then
      lt (pI c 148 (ix v2) v6) (fun c12 =>
      some (1, c12))
      else none
    else none)
  else none)
  else none
  else none)
set_option maxRecDepth 100000 in
set_option maxHeartbeats 4000000 in
theorem sp_192 {F Lo n : Nat} {a1 : Int32} {a2 : Int32} {a3 : Int32} {c y : cS} {w : cW} {K : Int32 × cS → Prop} {Q : ((Option Value) ⊕ String) → List va_E → Prop} (hw : rOK fm w) (hF : 1 ≤ F) (hLo : 22 ≤ Lo)  (h : wp (d_192 n a1 a2 a3 c) K) (hQ : ∀ r, K r → Q (.inl (some (.int r.1))) (hq true r.2 y w)) : rs (rt_P sc fm) 192 F Lo 0 [(0, .ref 146), (1, .int a1), (2, .int a2), (3, .int a3)] [] (hq true c y w) Q := by
  unfold d_192 at h
  obtain ⟨lv, elv⟩ : ∃ lv : rx_L, lv = [(0, .ref 146), (1, .int a1), (2, .int a2), (3, .int a3)] := ⟨_, rfl⟩
  rw [← elv]
  have l0 : rx_ld lv 0 = some (.ref 146) := by rw [elv]; rfl
  have l1 : rx_ld lv 1 = some (.int a1) := by rw [elv]; rfl
  have l2 : rx_ld lv 2 = some (.int a2) := by rw [elv]; rfl
  have l3 : rx_ld lv 3 = some (.int a3) := by rw [elv]; rfl
  refine rs_ildn wi_192_0 l1 ?_
  refine rs_pure wi_192_1 rfl ?_
  refine rs_topi (v := 4) (by decide) ?_
  refine rs_pure wi_192_2 rfl ?_
  refine rs_ildn wi_192_3 l2 ?_
  refine rs_pure wi_192_4 rfl ?_
  obtain ⟨v2, e3, h⟩ := wp_lt h
  refine rs_topi e3 ?_
  refine dl_ist wi_192_5 rfl (fun lv l4 t1 => ?_)
  have l0 := t1 _ _ (by decide) (Or.inl rfl) l0
  have l2 := t1 _ _ (by decide) (Or.inl rfl) l2
  have l3 := t1 _ _ (by decide) (Or.inl rfl) l3
  refine rs_aldn wi_192_7 l0 ?_
  refine dq_gr wi_192_8 wf_192_21 tf_146_0 ?_
  refine dq_gr wi_192_11 wf_192_43 tf_7_1 ?_
  refine rs_ildn wi_192_14 l2 ?_
  obtain ⟨g4, h⟩ := wp_gd h
  refine dq_aald wi_192_15 (by decide) t_8 g4 (hw.1 _ (ib_lt g4)) ?_
  refine rs_aldn wi_192_16 l0 ?_
  refine dq_gr wi_192_17 wf_192_15 tf_146_7 ?_
  refine rs_ild wi_192_20 l4 ?_
  obtain ⟨g5, h⟩ := wp_gd h
  refine dq_iald wi_192_22 t_148 g5 ?_
  refine rs_ildn wi_192_23 l3 ?_
  refine rs_V wi_192_24 wc_192_187 rfl (dq_isa (fO_0 (ib_lt g4)) wa_8_238) (Nat.le_trans (by decide) hF) (ml_le wm_238 (Nat.le_trans (by decide) hLo)) rfl (sp_238 hw (Nat.le_trans (by decide : 0 ≤ 1 - 1) (Nat.sub_le_sub_right hF 1)) (ml_sub wm_238 (Nat.le_trans (by decide : 0 ≤ 22 - 22) (Nat.sub_le_sub_right hLo 22))) (ib_lt g4) (wp_bind h) (fun v6 h => rs_back1 ?_))
  refine dl_ist wi_192_27 rfl (fun lv l5 t7 => ?_)
  have l0 := t7 _ _ (by decide) (Or.inl rfl) l0
  have l4 := t7 _ _ (by decide) (Or.inl rfl) l4
  refine rs_aldn wi_192_29 l0 ?_
  refine dq_gr wi_192_30 wf_192_9 tf_146_6 ?_
  refine rs_ild wi_192_33 l4 ?_
  obtain ⟨g8, h⟩ := wp_gd h
  refine dq_iald wi_192_35 t_147 g8 ?_
  refine wp_jn (B := fun p9 : Unit => ∀ lv, rs (rt_P sc fm) 192 F Lo 51 lv [] (hq true c y w) Q) h (fun p9 h lv => ?_) (fun j51 hj51 h => ?_)
  ·
    refine rs_pure wi_192_51 rfl ?_
    refine rs_topi (v := 0) (by decide) ?_
    exact rs_iret wi_192_52 wr_192 (nb_n (by decide)) (hQ (0, c) h)
  refine rs_ifge (tg := 51) wi_192_36 ⟨by decide, by decide⟩ (fun q => ?_) (fun q => ?_)
  ·
    have h := wp_pos h q
    exact hj51 _ h _
  ·
    have h := wp_neg h q
    refine rs_ild wi_192_39 l5 ?_
    refine rs_aldn wi_192_41 l0 ?_
    refine dq_gr wi_192_42 wf_192_15 tf_146_7 ?_
    refine rs_ild wi_192_45 l4 ?_
    obtain ⟨g10, h⟩ := wp_gd h
    refine dq_iald wi_192_47 t_148 g10 ?_
    refine rs_icne (tg := 53) wi_192_48 ⟨by decide, by decide⟩ (fun q => ?_) (fun q => ?_)
    ·
      have h := wp_neg h q
      refine rs_aldn wi_192_53 l0 ?_
      refine dq_gr wi_192_54 wf_192_15 tf_146_7 ?_
      refine rs_ild wi_192_57 l4 ?_
      refine rs_ild wi_192_59 l5 ?_
      obtain ⟨g11, h⟩ := wp_gd h
      obtain ⟨c12, e13, h⟩ := wp_lt h
      refine dq_iast wi_192_61 t_148 g11 e13 ?_
      refine rs_pure wi_192_62 rfl ?_
      refine rs_topi (v := 1) (by decide) ?_
      exact rs_iret wi_192_63 wr_192 (nb_n (by decide)) (hQ (1, c12) h)
    ·
      have h := wp_pos h q
      exact hj51 _ h _
theorem wa_4_192 : rz_cn 4 (rx_yn (rt_P sc fm) 192).cls = true := (by decide +kernel : rz_cn 4 (rt_yn 192).cls = true)
theorem wc_210_157 : rx_ct (rt_P sc fm) 210 157 = some (11, 355, 2) := (by decide +kernel : rt_ct 210 157 = some (11, 355, 2))
theorem wc_210_183 : rx_ct (rt_P sc fm) 210 183 = some (0, 168, 1) := (by decide +kernel : rt_ct 210 183 = some (0, 168, 1))
theorem wc_210_190 : rx_ct (rt_P sc fm) 210 190 = some (0, 169, 3) := (by decide +kernel : rt_ct 210 190 = some (0, 169, 3))
theorem wc_210_194 : rx_ct (rt_P sc fm) 210 194 = some (0, 170, 2) := (by decide +kernel : rt_ct 210 194 = some (0, 170, 2))
theorem wc_210_204 : rx_ct (rt_P sc fm) 210 204 = some (0, 192, 3) := (by decide +kernel : rt_ct 210 204 = some (0, 192, 3))
theorem wc_210_69 : rx_ct (rt_P sc fm) 210 69 = some (0, 197, 1) := (by decide +kernel : rt_ct 210 69 = some (0, 197, 1))
theorem wf_210_15 : rx_ft (rt_P sc fm) 210 15 = some (5, 4) := (by decide +kernel : rt_ft 210 15 = some (5, 4))
theorem wf_210_45 : rx_ft (rt_P sc fm) 210 45 = some (5, 1) := (by decide +kernel : rt_ft 210 45 = some (5, 1))
theorem wf_210_49 : rx_ft (rt_P sc fm) 210 49 = some (5, 2) := (by decide +kernel : rt_ft 210 49 = some (5, 2))
theorem wf_210_76 : rx_ft (rt_P sc fm) 210 76 = some (2, 5) := (by decide +kernel : rt_ft 210 76 = some (2, 5))
theorem wf_210_79 : rx_ft (rt_P sc fm) 210 79 = some (2, 6) := (by decide +kernel : rt_ft 210 79 = some (2, 6))
theorem wf_210_9 : rx_ft (rt_P sc fm) 210 9 = some (5, 3) := (by decide +kernel : rt_ft 210 9 = some (5, 3))
theorem wi_210_0 : ri (rt_P sc fm) 210 0 (.aload_n 0) (1) := ri_of (by decide +kernel) rfl
theorem wi_210_1 : ri (rt_P sc fm) 210 1 (.iload_n 1) (2) := ri_of (by decide +kernel) rfl
theorem wi_210_100 : ri (rt_P sc fm) 210 100 (.iload_n 3) (101) := ri_of (by decide +kernel) rfl
theorem wi_210_101 : ri (rt_P sc fm) 210 101 (.iload 4) (103) := ri_of (by decide +kernel) rfl
theorem wi_210_103 : ri (rt_P sc fm) 210 103 (.invokevirtual 190) (106) := ri_of (by decide +kernel) rfl
theorem wi_210_106 : ri (rt_P sc fm) 210 106 (.aload_n 0) (107) := ri_of (by decide +kernel) rfl
theorem wi_210_107 : ri (rt_P sc fm) 210 107 (.getfield 9) (110) := ri_of (by decide +kernel) rfl
theorem wi_210_11 : ri (rt_P sc fm) 210 11 (.getfield 76) (14) := ri_of (by decide +kernel) rfl
theorem wi_210_110 : ri (rt_P sc fm) 210 110 (.iload 5) (112) := ri_of (by decide +kernel) rfl
theorem wi_210_112 : ri (rt_P sc fm) 210 112 (.invokevirtual 204) (115) := ri_of (by decide +kernel) rfl
theorem wi_210_115 : ri (rt_P sc fm) 210 115 (.ior) (116) := ri_of (by decide +kernel) rfl
theorem wi_210_116 : ri (rt_P sc fm) 210 116 (.istore_n 2) (117) := ri_of (by decide +kernel) rfl
theorem wi_210_117 : ri (rt_P sc fm) 210 117 (.iinc 4 1) (120) := ri_of (by decide +kernel) rfl
theorem wi_210_120 : ri (rt_P sc fm) 210 120 (.goto (-77)) (123) := ri_of (by decide +kernel) rfl
theorem wi_210_123 : ri (rt_P sc fm) 210 123 (.iinc 3 1) (126) := ri_of (by decide +kernel) rfl
theorem wi_210_126 : ri (rt_P sc fm) 210 126 (.goto (-109)) (129) := ri_of (by decide +kernel) rfl
theorem wi_210_129 : ri (rt_P sc fm) 210 129 (.iload_n 2) (130) := ri_of (by decide +kernel) rfl
theorem wi_210_130 : ri (rt_P sc fm) 210 130 (.ireturn) (131) := ri_of (by decide +kernel) rfl
theorem wi_210_14 : ri (rt_P sc fm) 210 14 (.iload_n 1) (15) := ri_of (by decide +kernel) rfl
theorem wi_210_15 : ri (rt_P sc fm) 210 15 (.iaload) (16) := ri_of (by decide +kernel) rfl
theorem wi_210_16 : ri (rt_P sc fm) 210 16 (.istore_n 3) (17) := ri_of (by decide +kernel) rfl
theorem wi_210_17 : ri (rt_P sc fm) 210 17 (.iload_n 3) (18) := ri_of (by decide +kernel) rfl
theorem wi_210_18 : ri (rt_P sc fm) 210 18 (.aload_n 0) (19) := ri_of (by decide +kernel) rfl
theorem wi_210_19 : ri (rt_P sc fm) 210 19 (.getfield 45) (22) := ri_of (by decide +kernel) rfl
theorem wi_210_2 : ri (rt_P sc fm) 210 2 (.invokevirtual 69) (5) := ri_of (by decide +kernel) rfl
theorem wi_210_22 : ri (rt_P sc fm) 210 22 (.getfield 76) (25) := ri_of (by decide +kernel) rfl
theorem wi_210_25 : ri (rt_P sc fm) 210 25 (.iload_n 1) (26) := ri_of (by decide +kernel) rfl
theorem wi_210_26 : ri (rt_P sc fm) 210 26 (.iaload) (27) := ri_of (by decide +kernel) rfl
theorem wi_210_27 : ri (rt_P sc fm) 210 27 (.aload_n 0) (28) := ri_of (by decide +kernel) rfl
theorem wi_210_28 : ri (rt_P sc fm) 210 28 (.getfield 45) (31) := ri_of (by decide +kernel) rfl
theorem wi_210_31 : ri (rt_P sc fm) 210 31 (.getfield 79) (34) := ri_of (by decide +kernel) rfl
theorem wi_210_34 : ri (rt_P sc fm) 210 34 (.iload_n 1) (35) := ri_of (by decide +kernel) rfl
theorem wi_210_35 : ri (rt_P sc fm) 210 35 (.iaload) (36) := ri_of (by decide +kernel) rfl
theorem wi_210_36 : ri (rt_P sc fm) 210 36 (.iadd) (37) := ri_of (by decide +kernel) rfl
theorem wi_210_37 : ri (rt_P sc fm) 210 37 (.if_icmp .ge 92) (40) := ri_of (by decide +kernel) rfl
theorem wi_210_40 : ri (rt_P sc fm) 210 40 (.iconst 0) (41) := ri_of (by decide +kernel) rfl
theorem wi_210_41 : ri (rt_P sc fm) 210 41 (.istore 4) (43) := ri_of (by decide +kernel) rfl
theorem wi_210_43 : ri (rt_P sc fm) 210 43 (.iload 4) (45) := ri_of (by decide +kernel) rfl
theorem wi_210_45 : ri (rt_P sc fm) 210 45 (.aload_n 0) (46) := ri_of (by decide +kernel) rfl
theorem wi_210_46 : ri (rt_P sc fm) 210 46 (.getfield 45) (49) := ri_of (by decide +kernel) rfl
theorem wi_210_49 : ri (rt_P sc fm) 210 49 (.iload_n 3) (50) := ri_of (by decide +kernel) rfl
theorem wi_210_5 : ri (rt_P sc fm) 210 5 (.iconst 0) (6) := ri_of (by decide +kernel) rfl
theorem wi_210_50 : ri (rt_P sc fm) 210 50 (.invokevirtual 183) (53) := ri_of (by decide +kernel) rfl
theorem wi_210_53 : ri (rt_P sc fm) 210 53 (.if_icmp .ge 70) (56) := ri_of (by decide +kernel) rfl
theorem wi_210_56 : ri (rt_P sc fm) 210 56 (.aload_n 0) (57) := ri_of (by decide +kernel) rfl
theorem wi_210_57 : ri (rt_P sc fm) 210 57 (.getfield 15) (60) := ri_of (by decide +kernel) rfl
theorem wi_210_6 : ri (rt_P sc fm) 210 6 (.istore_n 2) (7) := ri_of (by decide +kernel) rfl
theorem wi_210_60 : ri (rt_P sc fm) 210 60 (.iload_n 3) (61) := ri_of (by decide +kernel) rfl
theorem wi_210_61 : ri (rt_P sc fm) 210 61 (.laload) (62) := ri_of (by decide +kernel) rfl
theorem wi_210_62 : ri (rt_P sc fm) 210 62 (.ldc2_w 82) (65) := ri_of (by decide +kernel) rfl
theorem wi_210_65 : ri (rt_P sc fm) 210 65 (.lcmp) (66) := ri_of (by decide +kernel) rfl
theorem wi_210_66 : ri (rt_P sc fm) 210 66 (.ifCond .eq 57) (69) := ri_of (by decide +kernel) rfl
theorem wi_210_69 : ri (rt_P sc fm) 210 69 (.aload_n 0) (70) := ri_of (by decide +kernel) rfl
theorem wi_210_7 : ri (rt_P sc fm) 210 7 (.aload_n 0) (8) := ri_of (by decide +kernel) rfl
theorem wi_210_70 : ri (rt_P sc fm) 210 70 (.getfield 15) (73) := ri_of (by decide +kernel) rfl
theorem wi_210_73 : ri (rt_P sc fm) 210 73 (.iload_n 3) (74) := ri_of (by decide +kernel) rfl
theorem wi_210_74 : ri (rt_P sc fm) 210 74 (.laload) (75) := ri_of (by decide +kernel) rfl
theorem wi_210_75 : ri (rt_P sc fm) 210 75 (.aload_n 0) (76) := ri_of (by decide +kernel) rfl
theorem wi_210_76 : ri (rt_P sc fm) 210 76 (.getfield 45) (79) := ri_of (by decide +kernel) rfl
theorem wi_210_79 : ri (rt_P sc fm) 210 79 (.iload_n 3) (80) := ri_of (by decide +kernel) rfl
theorem wi_210_8 : ri (rt_P sc fm) 210 8 (.getfield 45) (11) := ri_of (by decide +kernel) rfl
theorem wi_210_80 : ri (rt_P sc fm) 210 80 (.iload 4) (82) := ri_of (by decide +kernel) rfl
theorem wi_210_82 : ri (rt_P sc fm) 210 82 (.invokevirtual 194) (85) := ri_of (by decide +kernel) rfl
theorem wi_210_85 : ri (rt_P sc fm) 210 85 (.invokestatic 157) (88) := ri_of (by decide +kernel) rfl
theorem wi_210_88 : ri (rt_P sc fm) 210 88 (.istore 5) (90) := ri_of (by decide +kernel) rfl
theorem wi_210_90 : ri (rt_P sc fm) 210 90 (.iload_n 2) (91) := ri_of (by decide +kernel) rfl
theorem wi_210_91 : ri (rt_P sc fm) 210 91 (.aload_n 0) (92) := ri_of (by decide +kernel) rfl
theorem wi_210_92 : ri (rt_P sc fm) 210 92 (.getfield 49) (95) := ri_of (by decide +kernel) rfl
theorem wi_210_95 : ri (rt_P sc fm) 210 95 (.aload_n 0) (96) := ri_of (by decide +kernel) rfl
theorem wi_210_96 : ri (rt_P sc fm) 210 96 (.getfield 45) (99) := ri_of (by decide +kernel) rfl
theorem wi_210_99 : ri (rt_P sc fm) 210 99 (.iload_n 1) (100) := ri_of (by decide +kernel) rfl
theorem wk_210_82 : rx_kt (rt_P sc fm) 210 82 = some (.long (-1)) := (by decide +kernel : rt_kt 210 82 = some (.long (-1)))
theorem wm_192 : rx_ml (rt_P sc fm) 192 = 6 := (by decide +kernel : rt_ml 192 = 6)
theorem wr_210 : rx_rt (rt_P sc fm) 210 = (some FieldType.boolean) := (by decide +kernel : rt_rt 210 = (some FieldType.boolean))
/-- MarkHouse$Flow.raiseBy(I)Z -/
def d_210 (n : Nat) (a1 : Int32) (c : cS) : Option (Int32 × cS) :=
  Option.bind (d_197 n a1 c) (fun r1 =>
  if ib a1 96 then
  lt ((r1.1 119 (ix a1)) : Int32) (fun v5 =>
  Option.bind (whl (R := (Int32 × cS)) (fun s7 : Int32 × Int32 × cS =>
    if ib a1 96 then
    if ib a1 96 then
    if ((s7.2.2.1 119 (ix a1)) + (s7.2.2.1 120 (ix a1))) ≤ s7.2.1 then
      some (.inr (s7.1, s7.2.2))
    else
      Option.bind (whl (R := (Int32 × cS)) (fun s11 : Int32 × Int32 × cS =>
        Option.bind (d_168 n s7.2.1 s11.2.2) (fun v12 =>
        if v12 ≤ s11.2.1 then
          some (.inr (s11.1, s11.2.2))
        else
          if ib s7.2.1 1024 then
          if (lg_cmp (s11.2.2.2 151 (ix s7.2.1)) (-1)) = 0 then
            some (.inr (s11.1, s11.2.2))
          else
            if ib s7.2.1 1024 then
            Option.bind (d_170 n s7.2.1 s11.2.1 s11.2.2) (fun v15 =>
            Option.bind (d_355 n (s11.2.2.2 151 (ix s7.2.1)) v15) (fun v16 =>
            Option.bind (d_169 n a1 s7.2.1 s11.2.1 s11.2.2) (fun v18 =>
            Option.bind (d_192 n v18 (s11.2.2.1 150 3) v16 s11.2.2) (fun r19 =>
            lt ((s11.1 ||| r19.1) : Int32) (fun v21 =>
            lt (s11.2.1 + 1 : Int32) (fun v24 =>
            some (.inl (v21, v24, r19.2))))))))
            else none
          else none)) n (s7.1, 0, s7.2.2))
      (fun x26 : Int32 × cS =>
        lt (s7.2.1 + 1 : Int32) (fun v28 =>
        some (.inl (x26.1, v28, x26.2))))
    else none
    else none) n (0, v5, r1))
  (fun x30 : Int32 × cS =>
    if nb x30.1 then
    some (x30.1, x30.2)
    else none))
  else none)
set_option maxRecDepth 100000 in
set_option maxHeartbeats 4000000 in
theorem sp_210 {F Lo n : Nat} {a1 : Int32} {c y : cS} {w : cW} {K : Int32 × cS → Prop} {Q : ((Option Value) ⊕ String) → List va_E → Prop} (hw : rOK fm w) (hF : 5 ≤ F) (hLo : 132 ≤ Lo)  (h : wp (d_210 n a1 c) K) (hQ : ∀ r, K r → Q (.inl (some (.int r.1))) (hq true r.2 y w)) : rs (rt_P sc fm) 210 F Lo 0 [(0, .ref 150), (1, .int a1)] [] (hq true c y w) Q := by
  unfold d_210 at h
  obtain ⟨lv, elv⟩ : ∃ lv : rx_L, lv = [(0, .ref 150), (1, .int a1)] := ⟨_, rfl⟩
  rw [← elv]
  have l0 : rx_ld lv 0 = some (.ref 150) := by rw [elv]; rfl
  have l1 : rx_ld lv 1 = some (.int a1) := by rw [elv]; rfl
  refine rs_aldn wi_210_0 l0 ?_
  refine rs_ildn wi_210_1 l1 ?_
  refine rs_V wi_210_2 wc_210_69 rfl (dq_isa tf_150_0 wa_5_197) (Nat.le_trans (by decide) hF) (ml_le wm_197 (Nat.le_trans (by decide) hLo)) rfl (sp_197 hw (Nat.le_trans (by decide : 4 ≤ 5 - 1) (Nat.sub_le_sub_right hF 1)) (ml_sub wm_197 (Nat.le_trans (by decide : 106 ≤ 132 - 26) (Nat.sub_le_sub_right hLo 26))) (wp_bind h) (fun r1 h => rs_back0 ?_))
  refine rs_pure wi_210_5 rfl ?_
  refine rs_topi (v := 0) (by decide) ?_
  refine dl_istn wi_210_6 rfl (fun lv l2 t2 => ?_)
  have l0 := t2 _ _ (by decide) (Or.inl rfl) l0
  have l1 := t2 _ _ (by decide) (Or.inl rfl) l1
  refine rs_aldn wi_210_7 l0 ?_
  refine dq_gr wi_210_8 wf_210_45 tf_150_1 ?_
  refine dq_gr wi_210_11 wf_210_76 tf_114_5 ?_
  refine rs_ildn wi_210_14 l1 ?_
  obtain ⟨g3, h⟩ := wp_gd h
  refine dq_iald wi_210_15 t_119 g3 ?_
  obtain ⟨v5, e6, h⟩ := wp_lt h
  refine rs_topi e6 ?_
  refine dl_istn wi_210_16 rfl (fun lv l3 t4 => ?_)
  have l0 := t4 _ _ (by decide) (Or.inl rfl) l0
  have l1 := t4 _ _ (by decide) (Or.inl rfl) l1
  have l2 := t4 _ _ (by decide) (Or.inl rfl) l2
  refine whl_ex (A := fun s7 : Int32 × Int32 × cS => ∀ lv, rx_ld lv 0 = some (.ref 150) → rx_ld lv 1 = some (.int a1) → rx_ld lv 2 = some (.int s7.1) → rx_ld lv 3 = some (.int s7.2.1) → rs (rt_P sc fm) 210 F Lo 17 lv [] (hq true s7.2.2 y w) Q) (B := (fun x30 : Int32 × cS => ∀ lv, rx_ld lv 2 = some (.int x30.1) → rs (rt_P sc fm) 210 F Lo 129 lv [] (hq true x30.2 y w) Q)) ?_ ?_ _ _ (wp_bind h) _ l0 l1 l2 l3
  · intro s7 h lv l0 l1 l2 l3
    refine rs_ildn wi_210_17 l3 ?_
    refine rs_aldn wi_210_18 l0 ?_
    refine dq_gr wi_210_19 wf_210_45 tf_150_1 ?_
    refine dq_gr wi_210_22 wf_210_76 tf_114_5 ?_
    refine rs_ildn wi_210_25 l1 ?_
    obtain ⟨g8, h⟩ := wp_gd h
    refine dq_iald wi_210_26 t_119 g8 ?_
    refine rs_aldn wi_210_27 l0 ?_
    refine dq_gr wi_210_28 wf_210_45 tf_150_1 ?_
    refine dq_gr wi_210_31 wf_210_79 tf_114_6 ?_
    refine rs_ildn wi_210_34 l1 ?_
    obtain ⟨g9, h⟩ := wp_gd h
    refine dq_iald wi_210_35 t_120 g9 ?_
    refine rs_pure wi_210_36 rfl ?_
    refine rs_icge (tg := 129) wi_210_37 ⟨by decide, by decide⟩ (fun q => ?_) (fun q => ?_)
    ·
      have h := wp_pos h q
      exact h _ l2
    ·
      have h := wp_neg h q
      refine rs_pure wi_210_40 rfl ?_
      refine rs_topi (v := 0) (by decide) ?_
      refine dl_ist wi_210_41 rfl (fun lv l4 t10 => ?_)
      have l0 := t10 _ _ (by decide) (Or.inl rfl) l0
      have l1 := t10 _ _ (by decide) (Or.inl rfl) l1
      have l2 := t10 _ _ (by decide) (Or.inl rfl) l2
      have l3 := t10 _ _ (by decide) (Or.inl rfl) l3
      refine whl_ex (A := fun s11 : Int32 × Int32 × cS => ∀ lv, rx_ld lv 0 = some (.ref 150) → rx_ld lv 1 = some (.int a1) → rx_ld lv 2 = some (.int s11.1) → rx_ld lv 3 = some (.int s7.2.1) → rx_ld lv 4 = some (.int s11.2.1) → rs (rt_P sc fm) 210 F Lo 43 lv [] (hq true s11.2.2 y w) Q) (B := (fun x26 : Int32 × cS => ∀ lv, rx_ld lv 0 = some (.ref 150) → rx_ld lv 1 = some (.int a1) → rx_ld lv 2 = some (.int x26.1) → rx_ld lv 3 = some (.int s7.2.1) → rs (rt_P sc fm) 210 F Lo 123 lv [] (hq true x26.2 y w) Q)) ?_ ?_ _ _ (wp_bind h) _ l0 l1 l2 l3 l4
      · intro s11 h lv l0 l1 l2 l3 l4
        refine rs_ild wi_210_43 l4 ?_
        refine rs_aldn wi_210_45 l0 ?_
        refine dq_gr wi_210_46 wf_210_45 tf_150_1 ?_
        refine rs_ildn wi_210_49 l3 ?_
        refine rs_V wi_210_50 wc_210_183 rfl (dq_isa tf_114_0 wa_2_168) (Nat.le_trans (by decide) hF) (ml_le wm_168 (Nat.le_trans (by decide) hLo)) rfl (sp_168 hw (Nat.le_trans (by decide : 0 ≤ 5 - 1) (Nat.sub_le_sub_right hF 1)) (ml_sub wm_168 (Nat.le_trans (by decide : 0 ≤ 132 - 21) (Nat.sub_le_sub_right hLo 21))) (wp_bind h) (fun v12 h => rs_back1 ?_))
        refine rs_icge (tg := 123) wi_210_53 ⟨by decide, by decide⟩ (fun q => ?_) (fun q => ?_)
        ·
          have h := wp_pos h q
          exact h _ l0 l1 l2 l3
        ·
          have h := wp_neg h q
          refine rs_aldn wi_210_56 l0 ?_
          refine dq_gr wi_210_57 wf_210_15 tf_150_4 ?_
          refine rs_ildn wi_210_60 l3 ?_
          obtain ⟨g13, h⟩ := wp_gd h
          refine dq_lald wi_210_61 t_151 g13 ?_
          refine rs_ldcl wi_210_62 wk_210_82 ?_
          refine rs_pure wi_210_65 rfl ?_
          refine rs_ifeq (tg := 123) wi_210_66 ⟨by decide, by decide⟩ (fun q => ?_) (fun q => ?_)
          ·
            have h := wp_pos h q
            exact h _ l0 l1 l2 l3
          ·
            have h := wp_neg h q
            refine rs_aldn wi_210_69 l0 ?_
            refine dq_gr wi_210_70 wf_210_15 tf_150_4 ?_
            refine rs_ildn wi_210_73 l3 ?_
            obtain ⟨g14, h⟩ := wp_gd h
            refine dq_lald wi_210_74 t_151 g14 ?_
            refine rs_aldn wi_210_75 l0 ?_
            refine dq_gr wi_210_76 wf_210_45 tf_150_1 ?_
            refine rs_ildn wi_210_79 l3 ?_
            refine rs_ild wi_210_80 l4 ?_
            refine rs_V wi_210_82 wc_210_194 rfl (dq_isa tf_114_0 wa_2_170) (Nat.le_trans (by decide) hF) (ml_le wm_170 (Nat.le_trans (by decide) hLo)) rfl (sp_170 hw (Nat.le_trans (by decide : 1 ≤ 5 - 1) (Nat.sub_le_sub_right hF 1)) (ml_sub wm_170 (Nat.le_trans (by decide : 21 ≤ 132 - 22) (Nat.sub_le_sub_right hLo 22))) (wp_bind h) (fun v15 h => rs_back1 ?_))
            refine rs_SN wi_210_85 wc_210_157 rfl (Nat.le_trans (by decide) hF) (ml_le wm_355 (Nat.le_trans (by decide) hLo)) rfl (sp_355 (Nat.le_trans (by decide : 0 ≤ 5 - 1) (Nat.sub_le_sub_right hF 1)) (ml_sub wm_355 (Nat.le_trans (by decide : 0 ≤ 132 - 22) (Nat.sub_le_sub_right hLo 22))) (wp_bind h) (fun v16 h => rs_back1 ?_))
            refine dl_ist wi_210_88 rfl (fun lv l5 t17 => ?_)
            have l0 := t17 _ _ (by decide) (Or.inl rfl) l0
            have l1 := t17 _ _ (by decide) (Or.inl rfl) l1
            have l2 := t17 _ _ (by decide) (Or.inl rfl) l2
            have l3 := t17 _ _ (by decide) (Or.inl rfl) l3
            have l4 := t17 _ _ (by decide) (Or.inl rfl) l4
            refine rs_ildn wi_210_90 l2 ?_
            refine rs_aldn wi_210_91 l0 ?_
            refine dq_gr wi_210_92 wf_210_49 tf_150_2 ?_
            refine rs_aldn wi_210_95 l0 ?_
            refine dq_gr wi_210_96 wf_210_45 tf_150_1 ?_
            refine rs_ildn wi_210_99 l1 ?_
            refine rs_ildn wi_210_100 l3 ?_
            refine rs_ild wi_210_101 l4 ?_
            refine rs_V wi_210_103 wc_210_190 rfl (dq_isa tf_114_0 wa_2_169) (Nat.le_trans (by decide) hF) (ml_le wm_169 (Nat.le_trans (by decide) hLo)) rfl (sp_169 hw (Nat.le_trans (by decide : 1 ≤ 5 - 1) (Nat.sub_le_sub_right hF 1)) (ml_sub wm_169 (Nat.le_trans (by decide : 21 ≤ 132 - 23) (Nat.sub_le_sub_right hLo 23))) (wp_bind h) (fun v18 h => rs_back1 ?_))
            refine rs_aldn wi_210_106 l0 ?_
            refine dq_gi wi_210_107 wf_210_9 tf_150_3 ?_
            refine rs_ild wi_210_110 l5 ?_
            refine rs_V wi_210_112 wc_210_204 rfl (dq_isa tf_146_0 wa_4_192) (Nat.le_trans (by decide) hF) (ml_le wm_192 (Nat.le_trans (by decide) hLo)) rfl (sp_192 hw (Nat.le_trans (by decide : 1 ≤ 5 - 1) (Nat.sub_le_sub_right hF 1)) (ml_sub wm_192 (Nat.le_trans (by decide : 22 ≤ 132 - 25) (Nat.sub_le_sub_right hLo 25))) (wp_bind h) (fun r19 h => rs_back1 ?_))
            refine rs_pure wi_210_115 rfl ?_
            obtain ⟨v21, e22, h⟩ := wp_lt h
            refine rs_topi e22 ?_
            refine dl_istn wi_210_116 rfl (fun lv l2 t20 => ?_)
            have l0 := t20 _ _ (by decide) (Or.inl rfl) l0
            have l1 := t20 _ _ (by decide) (Or.inl rfl) l1
            have l3 := t20 _ _ (by decide) (Or.inl rfl) l3
            have l4 := t20 _ _ (by decide) (Or.inl rfl) l4
            obtain ⟨v24, e25, h⟩ := wp_lt h
            refine dl_inc wi_210_117 l4 rfl e25 (fun lv l4 t23 => ?_)
            have l0 := t23 _ _ (by decide) (Or.inl rfl) l0
            have l1 := t23 _ _ (by decide) (Or.inl rfl) l1
            have l2 := t23 _ _ (by decide) (Or.inl rfl) l2
            have l3 := t23 _ _ (by decide) (Or.inl rfl) l3
            refine rs_goto (tg := 43) wi_210_120 ⟨by decide, by decide⟩ ?_
            exact h _ l0 l1 l2 l3 l4
      ·
        intro x26 h lv l0 l1 l2 l3
        obtain ⟨v28, e29, h⟩ := wp_lt h
        refine dl_inc wi_210_123 l3 rfl e29 (fun lv l3 t27 => ?_)
        have l0 := t27 _ _ (by decide) (Or.inl rfl) l0
        have l1 := t27 _ _ (by decide) (Or.inl rfl) l1
        have l2 := t27 _ _ (by decide) (Or.inl rfl) l2
        refine rs_goto (tg := 17) wi_210_126 ⟨by decide, by decide⟩ ?_
        exact h _ l0 l1 l2 l3
  ·
    intro x30 h lv l2
    refine rs_ildn wi_210_129 l2 ?_
    obtain ⟨g31, h⟩ := wp_gd h
    exact rs_iret wi_210_130 wr_210 (nb_n g31) (hQ (x30.1, x30.2) h)
theorem wa_5_210 : rz_cn 5 (rx_yn (rt_P sc fm) 210).cls = true := (by decide +kernel : rz_cn 5 (rt_yn 210).cls = true)
theorem wc_209_201 : rx_ct (rt_P sc fm) 209 201 = some (0, 210, 1) := (by decide +kernel : rt_ct 209 201 = some (0, 210, 1))
theorem wc_209_59 : rx_ct (rt_P sc fm) 209 59 = some (0, 158, 0) := (by decide +kernel : rt_ct 209 59 = some (0, 158, 0))
theorem wc_209_65 : rx_ct (rt_P sc fm) 209 65 = some (0, 157, 1) := (by decide +kernel : rt_ct 209 65 = some (0, 157, 1))
theorem wf_209_45 : rx_ft (rt_P sc fm) 209 45 = some (5, 1) := (by decide +kernel : rt_ft 209 45 = some (5, 1))
theorem wi_209_0 : ri (rt_P sc fm) 209 0 (.aload_n 0) (1) := ri_of (by decide +kernel) rfl
theorem wi_209_1 : ri (rt_P sc fm) 209 1 (.iload_n 1) (2) := ri_of (by decide +kernel) rfl
theorem wi_209_10 : ri (rt_P sc fm) 209 10 (.ldc 94) (12) := ri_of (by decide +kernel) rfl
theorem wi_209_12 : ri (rt_P sc fm) 209 12 (.if_icmp .ge 65) (15) := ri_of (by decide +kernel) rfl
theorem wi_209_15 : ri (rt_P sc fm) 209 15 (.iload_n 2) (16) := ri_of (by decide +kernel) rfl
theorem wi_209_16 : ri (rt_P sc fm) 209 16 (.ifCond .eq 61) (19) := ri_of (by decide +kernel) rfl
theorem wi_209_19 : ri (rt_P sc fm) 209 19 (.iconst 0) (20) := ri_of (by decide +kernel) rfl
theorem wi_209_2 : ri (rt_P sc fm) 209 2 (.putfield 9) (5) := ri_of (by decide +kernel) rfl
theorem wi_209_20 : ri (rt_P sc fm) 209 20 (.istore_n 2) (21) := ri_of (by decide +kernel) rfl
theorem wi_209_21 : ri (rt_P sc fm) 209 21 (.iconst 0) (22) := ri_of (by decide +kernel) rfl
theorem wi_209_22 : ri (rt_P sc fm) 209 22 (.istore 4) (24) := ri_of (by decide +kernel) rfl
theorem wi_209_24 : ri (rt_P sc fm) 209 24 (.iload 4) (26) := ri_of (by decide +kernel) rfl
theorem wi_209_26 : ri (rt_P sc fm) 209 26 (.aload_n 0) (27) := ri_of (by decide +kernel) rfl
theorem wi_209_27 : ri (rt_P sc fm) 209 27 (.getfield 45) (30) := ri_of (by decide +kernel) rfl
theorem wi_209_30 : ri (rt_P sc fm) 209 30 (.invokevirtual 59) (33) := ri_of (by decide +kernel) rfl
theorem wi_209_33 : ri (rt_P sc fm) 209 33 (.if_icmp .ge 38) (36) := ri_of (by decide +kernel) rfl
theorem wi_209_36 : ri (rt_P sc fm) 209 36 (.iload_n 2) (37) := ri_of (by decide +kernel) rfl
theorem wi_209_37 : ri (rt_P sc fm) 209 37 (.aload_n 0) (38) := ri_of (by decide +kernel) rfl
theorem wi_209_38 : ri (rt_P sc fm) 209 38 (.getfield 45) (41) := ri_of (by decide +kernel) rfl
theorem wi_209_41 : ri (rt_P sc fm) 209 41 (.iload 4) (43) := ri_of (by decide +kernel) rfl
theorem wi_209_43 : ri (rt_P sc fm) 209 43 (.invokevirtual 65) (46) := ri_of (by decide +kernel) rfl
theorem wi_209_46 : ri (rt_P sc fm) 209 46 (.ifCond .eq 16) (49) := ri_of (by decide +kernel) rfl
theorem wi_209_49 : ri (rt_P sc fm) 209 49 (.aload_n 0) (50) := ri_of (by decide +kernel) rfl
theorem wi_209_5 : ri (rt_P sc fm) 209 5 (.iconst 1) (6) := ri_of (by decide +kernel) rfl
theorem wi_209_50 : ri (rt_P sc fm) 209 50 (.iload 4) (52) := ri_of (by decide +kernel) rfl
theorem wi_209_52 : ri (rt_P sc fm) 209 52 (.invokevirtual 201) (55) := ri_of (by decide +kernel) rfl
theorem wi_209_55 : ri (rt_P sc fm) 209 55 (.ifCond .eq 7) (58) := ri_of (by decide +kernel) rfl
theorem wi_209_58 : ri (rt_P sc fm) 209 58 (.iconst 1) (59) := ri_of (by decide +kernel) rfl
theorem wi_209_59 : ri (rt_P sc fm) 209 59 (.goto 4) (62) := ri_of (by decide +kernel) rfl
theorem wi_209_6 : ri (rt_P sc fm) 209 6 (.istore_n 2) (7) := ri_of (by decide +kernel) rfl
theorem wi_209_62 : ri (rt_P sc fm) 209 62 (.iconst 0) (63) := ri_of (by decide +kernel) rfl
theorem wi_209_63 : ri (rt_P sc fm) 209 63 (.ior) (64) := ri_of (by decide +kernel) rfl
theorem wi_209_64 : ri (rt_P sc fm) 209 64 (.istore_n 2) (65) := ri_of (by decide +kernel) rfl
theorem wi_209_65 : ri (rt_P sc fm) 209 65 (.iinc 4 1) (68) := ri_of (by decide +kernel) rfl
theorem wi_209_68 : ri (rt_P sc fm) 209 68 (.goto (-44)) (71) := ri_of (by decide +kernel) rfl
theorem wi_209_7 : ri (rt_P sc fm) 209 7 (.iconst 0) (8) := ri_of (by decide +kernel) rfl
theorem wi_209_71 : ri (rt_P sc fm) 209 71 (.iinc 3 1) (74) := ri_of (by decide +kernel) rfl
theorem wi_209_74 : ri (rt_P sc fm) 209 74 (.goto (-65)) (77) := ri_of (by decide +kernel) rfl
theorem wi_209_77 : ri (rt_P sc fm) 209 77 (.return_) (78) := ri_of (by decide +kernel) rfl
theorem wi_209_8 : ri (rt_P sc fm) 209 8 (.istore_n 3) (9) := ri_of (by decide +kernel) rfl
theorem wi_209_9 : ri (rt_P sc fm) 209 9 (.iload_n 3) (10) := ri_of (by decide +kernel) rfl
theorem wk_209_94 : rx_kt (rt_P sc fm) 209 94 = some (.int (1000000)) := (by decide +kernel : rt_kt 209 94 = some (.int (1000000)))
theorem wm_210 : rx_ml (rt_P sc fm) 210 = 6 := (by decide +kernel : rt_ml 210 = 6)
theorem wp_209_9 : rx_pt (rt_P sc fm) 209 9 = some (5, 3, .int) := (by decide +kernel : rt_pt 209 9 = some (5, 3, .int))
theorem wr_209 : rx_rt (rt_P sc fm) 209 = none := (by decide +kernel : rt_rt 209 = none)
/-- MarkHouse$Flow.raiseFound(I)V -/
def d_209 (n : Nat) (a1 : Int32) (c : cS) : Option (cS) :=
  lt (pI c 150 3 a1) (fun c1 =>
  Option.bind (whl (R := (cS)) (fun s5 : Int32 × Int32 × cS =>
    if 1000000 ≤ s5.2.1 then
      some (.inr s5.2.2)
    else
      if s5.1 = 0 then
        some (.inr s5.2.2)
      else
        Option.bind (whl (R := (Int32 × cS)) (fun s8 : Int32 × Int32 × cS =>
          Option.bind (d_158 n s8.2.2) (fun v9 =>
          if v9 ≤ s8.2.1 then
            some (.inr (s8.1, s8.2.2))
          else
            Option.bind (d_157 n s8.2.1 s8.2.2) (fun v10 =>
            jn (fun p11 : Int32 × cS =>
              lt ((s8.1 ||| p11.1) : Int32) (fun v13 =>
              lt (s8.2.1 + 1 : Int32) (fun v16 =>
              some (.inl (v13, v16, p11.2)))))
            (fun j63 =>
            jn (fun p18 : cS =>
              j63 (0, p18))
            (fun j62 =>
            if v10 = 0 then
              j62 s8.2.2
            else
              Option.bind (d_210 n s8.2.1 s8.2.2) (fun r19 =>
              if r19.1 = 0 then
                j62 r19.2
              else
                j63 (1, r19.2))))))) n (0, 0, s5.2.2))
        (fun x20 : Int32 × cS =>
          lt (s5.2.1 + 1 : Int32) (fun v22 =>
          some (.inl (x20.1, v22, x20.2))))) n (1, 0, c1))
  (fun x24 : cS =>
    some x24))
set_option maxRecDepth 100000 in
set_option maxHeartbeats 4000000 in
theorem sp_209 {F Lo n : Nat} {a1 : Int32} {c y : cS} {w : cW} {K : cS → Prop} {Q : ((Option Value) ⊕ String) → List va_E → Prop} (hw : rOK fm w) (hF : 6 ≤ F) (hLo : 157 ≤ Lo)  (h : wp (d_209 n a1 c) K) (hQ : ∀ r, K r → Q (.inl none) (hq true r y w)) : rs (rt_P sc fm) 209 F Lo 0 [(0, .ref 150), (1, .int a1)] [] (hq true c y w) Q := by
  unfold d_209 at h
  obtain ⟨lv, elv⟩ : ∃ lv : rx_L, lv = [(0, .ref 150), (1, .int a1)] := ⟨_, rfl⟩
  rw [← elv]
  have l0 : rx_ld lv 0 = some (.ref 150) := by rw [elv]; rfl
  have l1 : rx_ld lv 1 = some (.int a1) := by rw [elv]; rfl
  refine rs_aldn wi_209_0 l0 ?_
  refine rs_ildn wi_209_1 l1 ?_
  obtain ⟨c1, e2, h⟩ := wp_lt h
  refine dq_pi wi_209_2 wp_209_9 tf_150_3 rfl rfl e2 ?_
  refine rs_pure wi_209_5 rfl ?_
  refine rs_topi (v := 1) (by decide) ?_
  refine dl_istn wi_209_6 rfl (fun lv l2 t3 => ?_)
  have l0 := t3 _ _ (by decide) (Or.inl rfl) l0
  refine rs_pure wi_209_7 rfl ?_
  refine rs_topi (v := 0) (by decide) ?_
  refine dl_istn wi_209_8 rfl (fun lv l3 t4 => ?_)
  have l0 := t4 _ _ (by decide) (Or.inl rfl) l0
  have l2 := t4 _ _ (by decide) (Or.inl rfl) l2
  refine whl_ex (A := fun s5 : Int32 × Int32 × cS => ∀ lv, rx_ld lv 0 = some (.ref 150) → rx_ld lv 2 = some (.int s5.1) → rx_ld lv 3 = some (.int s5.2.1) → rs (rt_P sc fm) 209 F Lo 9 lv [] (hq true s5.2.2 y w) Q) (B := (fun x24 : cS => ∀ lv, rs (rt_P sc fm) 209 F Lo 77 lv [] (hq true x24 y w) Q)) ?_ ?_ _ _ (wp_bind h) _ l0 l2 l3
  · intro s5 h lv l0 l2 l3
    refine rs_ildn wi_209_9 l3 ?_
    refine rs_ldc wi_209_10 wk_209_94 ?_
    refine rs_icge (tg := 77) wi_209_12 ⟨by decide, by decide⟩ (fun q => ?_) (fun q => ?_)
    ·
      have h := wp_pos h q
      exact h _
    ·
      have h := wp_neg h q
      refine rs_ildn wi_209_15 l2 ?_
      refine rs_ifeq (tg := 77) wi_209_16 ⟨by decide, by decide⟩ (fun q => ?_) (fun q => ?_)
      ·
        have h := wp_pos h q
        exact h _
      ·
        have h := wp_neg h q
        refine rs_pure wi_209_19 rfl ?_
        refine rs_topi (v := 0) (by decide) ?_
        refine dl_istn wi_209_20 rfl (fun lv l2 t6 => ?_)
        have l0 := t6 _ _ (by decide) (Or.inl rfl) l0
        have l3 := t6 _ _ (by decide) (Or.inl rfl) l3
        refine rs_pure wi_209_21 rfl ?_
        refine rs_topi (v := 0) (by decide) ?_
        refine dl_ist wi_209_22 rfl (fun lv l4 t7 => ?_)
        have l0 := t7 _ _ (by decide) (Or.inl rfl) l0
        have l2 := t7 _ _ (by decide) (Or.inl rfl) l2
        have l3 := t7 _ _ (by decide) (Or.inl rfl) l3
        refine whl_ex (A := fun s8 : Int32 × Int32 × cS => ∀ lv, rx_ld lv 0 = some (.ref 150) → rx_ld lv 2 = some (.int s8.1) → rx_ld lv 3 = some (.int s5.2.1) → rx_ld lv 4 = some (.int s8.2.1) → rs (rt_P sc fm) 209 F Lo 24 lv [] (hq true s8.2.2 y w) Q) (B := (fun x20 : Int32 × cS => ∀ lv, rx_ld lv 0 = some (.ref 150) → rx_ld lv 2 = some (.int x20.1) → rx_ld lv 3 = some (.int s5.2.1) → rs (rt_P sc fm) 209 F Lo 71 lv [] (hq true x20.2 y w) Q)) ?_ ?_ _ _ (wp_bind h) _ l0 l2 l3 l4
        · intro s8 h lv l0 l2 l3 l4
          refine rs_ild wi_209_24 l4 ?_
          refine rs_aldn wi_209_26 l0 ?_
          refine dq_gr wi_209_27 wf_209_45 tf_150_1 ?_
          refine rs_V wi_209_30 wc_209_59 rfl (dq_isa tf_114_0 wa_2_158) (Nat.le_trans (by decide) hF) (ml_le wm_158 (Nat.le_trans (by decide) hLo)) rfl (sp_158 hw (Nat.le_trans (by decide : 0 ≤ 6 - 1) (Nat.sub_le_sub_right hF 1)) (ml_sub wm_158 (Nat.le_trans (by decide : 0 ≤ 157 - 20) (Nat.sub_le_sub_right hLo 20))) (wp_bind h) (fun v9 h => rs_back1 ?_))
          refine rs_icge (tg := 71) wi_209_33 ⟨by decide, by decide⟩ (fun q => ?_) (fun q => ?_)
          ·
            have h := wp_pos h q
            exact h _ l0 l2 l3
          ·
            have h := wp_neg h q
            refine rs_ildn wi_209_36 l2 ?_
            refine rs_aldn wi_209_37 l0 ?_
            refine dq_gr wi_209_38 wf_209_45 tf_150_1 ?_
            refine rs_ild wi_209_41 l4 ?_
            refine rs_V wi_209_43 wc_209_65 rfl (dq_isa tf_114_0 wa_2_157) (Nat.le_trans (by decide) hF) (ml_le wm_157 (Nat.le_trans (by decide) hLo)) rfl (sp_157 hw (Nat.le_trans (by decide : 0 ≤ 6 - 1) (Nat.sub_le_sub_right hF 1)) (ml_sub wm_157 (Nat.le_trans (by decide : 0 ≤ 157 - 21) (Nat.sub_le_sub_right hLo 21))) (wp_bind h) (fun v10 h => rs_back1 ?_))
            refine wp_jn (B := fun p11 : Int32 × cS => ∀ lv, rx_ld lv 0 = some (.ref 150) → rx_ld lv 3 = some (.int s5.2.1) → rx_ld lv 4 = some (.int s8.2.1) → rs (rt_P sc fm) 209 F Lo 63 lv [.int p11.1, .int s8.1] (hq true p11.2 y w) Q) h (fun p11 h lv l0 l3 l4 => ?_) (fun j63 hj63 h => ?_)
            ·
              refine rs_pure wi_209_63 rfl ?_
              obtain ⟨v13, e14, h⟩ := wp_lt h
              refine rs_topi e14 ?_
              refine dl_istn wi_209_64 rfl (fun lv l2 t12 => ?_)
              have l0 := t12 _ _ (by decide) (Or.inl rfl) l0
              have l3 := t12 _ _ (by decide) (Or.inl rfl) l3
              have l4 := t12 _ _ (by decide) (Or.inl rfl) l4
              obtain ⟨v16, e17, h⟩ := wp_lt h
              refine dl_inc wi_209_65 l4 rfl e17 (fun lv l4 t15 => ?_)
              have l0 := t15 _ _ (by decide) (Or.inl rfl) l0
              have l2 := t15 _ _ (by decide) (Or.inl rfl) l2
              have l3 := t15 _ _ (by decide) (Or.inl rfl) l3
              refine rs_goto (tg := 24) wi_209_68 ⟨by decide, by decide⟩ ?_
              exact h _ l0 l2 l3 l4
            refine wp_jn (B := fun p18 : cS => ∀ lv, rx_ld lv 0 = some (.ref 150) → rx_ld lv 3 = some (.int s5.2.1) → rx_ld lv 4 = some (.int s8.2.1) → rs (rt_P sc fm) 209 F Lo 62 lv [.int s8.1] (hq true p18 y w) Q) h (fun p18 h lv l0 l3 l4 => ?_) (fun j62 hj62 h => ?_)
            ·
              refine rs_pure wi_209_62 rfl ?_
              refine rs_topi (v := 0) (by decide) ?_
              exact hj63 _ h _ l0 l3 l4
            refine rs_ifeq (tg := 62) wi_209_46 ⟨by decide, by decide⟩ (fun q => ?_) (fun q => ?_)
            ·
              have h := wp_pos h q
              exact hj62 _ h _ l0 l3 l4
            ·
              have h := wp_neg h q
              refine rs_aldn wi_209_49 l0 ?_
              refine rs_ild wi_209_50 l4 ?_
              refine rs_V wi_209_52 wc_209_201 rfl (dq_isa tf_150_0 wa_5_210) (Nat.le_trans (by decide) hF) (ml_le wm_210 (Nat.le_trans (by decide) hLo)) rfl (sp_210 hw (Nat.le_trans (by decide : 5 ≤ 6 - 1) (Nat.sub_le_sub_right hF 1)) (ml_sub wm_210 (Nat.le_trans (by decide : 132 ≤ 157 - 25) (Nat.sub_le_sub_right hLo 25))) (wp_bind h) (fun r19 h => rs_back1 ?_))
              refine rs_ifeq (tg := 62) wi_209_55 ⟨by decide, by decide⟩ (fun q => ?_) (fun q => ?_)
              ·
                have h := wp_pos h q
                exact hj62 _ h _ l0 l3 l4
              ·
                have h := wp_neg h q
                refine rs_pure wi_209_58 rfl ?_
                refine rs_topi (v := 1) (by decide) ?_
                refine rs_goto (tg := 63) wi_209_59 ⟨by decide, by decide⟩ ?_
                exact hj63 _ h _ l0 l3 l4
        ·
          intro x20 h lv l0 l2 l3
          obtain ⟨v22, e23, h⟩ := wp_lt h
          refine dl_inc wi_209_71 l3 rfl e23 (fun lv l3 t21 => ?_)
          have l0 := t21 _ _ (by decide) (Or.inl rfl) l0
          have l2 := t21 _ _ (by decide) (Or.inl rfl) l2
          refine rs_goto (tg := 9) wi_209_74 ⟨by decide, by decide⟩ ?_
          exact h _ l0 l2 l3
  ·
    intro x24 h lv
    exact rs_vret wi_209_77 wr_209 (hQ x24 h)
theorem wa_4_191 : rz_cn 4 (rx_yn (rt_P sc fm) 191).cls = true := (by decide +kernel : rz_cn 4 (rt_yn 191).cls = true)
theorem wa_5_209 : rz_cn 5 (rx_yn (rt_P sc fm) 209).cls = true := (by decide +kernel : rz_cn 5 (rt_yn 209).cls = true)
theorem wc_78_108 : rx_ct (rt_P sc fm) 78 108 = some (0, 90, 0) := (by decide +kernel : rt_ct 78 108 = some (0, 90, 0))
theorem wc_78_170 : rx_ct (rt_P sc fm) 78 170 = some (0, 37, 1) := (by decide +kernel : rt_ct 78 170 = some (0, 37, 1))
theorem wc_78_269 : rx_ct (rt_P sc fm) 78 269 = some (0, 188, 0) := (by decide +kernel : rt_ct 78 269 = some (0, 188, 0))
theorem wc_78_306 : rx_ct (rt_P sc fm) 78 306 = some (0, 191, 1) := (by decide +kernel : rt_ct 78 306 = some (0, 191, 1))
theorem wc_78_309 : rx_ct (rt_P sc fm) 78 309 = some (0, 209, 1) := (by decide +kernel : rt_ct 78 309 = some (0, 209, 1))
theorem wc_78_312 : rx_ct (rt_P sc fm) 78 312 = some (0, 29, 0) := (by decide +kernel : rt_ct 78 312 = some (0, 29, 0))
theorem wf_78_19 : rx_ft (rt_P sc fm) 78 19 = some (14, 1) := (by decide +kernel : rt_ft 78 19 = some (14, 1))
theorem wf_78_53 : rx_ft (rt_P sc fm) 78 53 = some (14, 5) := (by decide +kernel : rt_ft 78 53 = some (14, 5))
theorem wf_78_62 : rx_ft (rt_P sc fm) 78 62 = some (14, 6) := (by decide +kernel : rt_ft 78 62 = some (14, 6))
theorem wi_78_0 : ri (rt_P sc fm) 78 0 (.aload_n 0) (1) := ri_of (by decide +kernel) rfl
theorem wi_78_1 : ri (rt_P sc fm) 78 1 (.getfield 19) (4) := ri_of (by decide +kernel) rfl
theorem wi_78_11 : ri (rt_P sc fm) 78 11 (.iconst (-1)) (12) := ri_of (by decide +kernel) rfl
theorem wi_78_12 : ri (rt_P sc fm) 78 12 (.ireturn) (13) := ri_of (by decide +kernel) rfl
theorem wi_78_13 : ri (rt_P sc fm) 78 13 (.aload_n 0) (14) := ri_of (by decide +kernel) rfl
theorem wi_78_14 : ri (rt_P sc fm) 78 14 (.invokevirtual 108) (17) := ri_of (by decide +kernel) rfl
theorem wi_78_17 : ri (rt_P sc fm) 78 17 (.aload_n 0) (18) := ri_of (by decide +kernel) rfl
theorem wi_78_18 : ri (rt_P sc fm) 78 18 (.getfield 53) (21) := ri_of (by decide +kernel) rfl
theorem wi_78_21 : ri (rt_P sc fm) 78 21 (.invokevirtual 269) (24) := ri_of (by decide +kernel) rfl
theorem wi_78_24 : ri (rt_P sc fm) 78 24 (.aload_n 0) (25) := ri_of (by decide +kernel) rfl
theorem wi_78_25 : ri (rt_P sc fm) 78 25 (.getfield 53) (28) := ri_of (by decide +kernel) rfl
theorem wi_78_28 : ri (rt_P sc fm) 78 28 (.iload_n 1) (29) := ri_of (by decide +kernel) rfl
theorem wi_78_29 : ri (rt_P sc fm) 78 29 (.invokevirtual 306) (32) := ri_of (by decide +kernel) rfl
theorem wi_78_32 : ri (rt_P sc fm) 78 32 (.istore_n 2) (33) := ri_of (by decide +kernel) rfl
theorem wi_78_33 : ri (rt_P sc fm) 78 33 (.aload_n 0) (34) := ri_of (by decide +kernel) rfl
theorem wi_78_34 : ri (rt_P sc fm) 78 34 (.getfield 62) (37) := ri_of (by decide +kernel) rfl
theorem wi_78_37 : ri (rt_P sc fm) 78 37 (.iload_n 1) (38) := ri_of (by decide +kernel) rfl
theorem wi_78_38 : ri (rt_P sc fm) 78 38 (.invokevirtual 309) (41) := ri_of (by decide +kernel) rfl
theorem wi_78_4 : ri (rt_P sc fm) 78 4 (.iload_n 1) (5) := ri_of (by decide +kernel) rfl
theorem wi_78_41 : ri (rt_P sc fm) 78 41 (.aload_n 0) (42) := ri_of (by decide +kernel) rfl
theorem wi_78_42 : ri (rt_P sc fm) 78 42 (.getfield 62) (45) := ri_of (by decide +kernel) rfl
theorem wi_78_45 : ri (rt_P sc fm) 78 45 (.invokevirtual 312) (48) := ri_of (by decide +kernel) rfl
theorem wi_78_48 : ri (rt_P sc fm) 78 48 (.iload_n 2) (49) := ri_of (by decide +kernel) rfl
theorem wi_78_49 : ri (rt_P sc fm) 78 49 (.ireturn) (50) := ri_of (by decide +kernel) rfl
theorem wi_78_5 : ri (rt_P sc fm) 78 5 (.invokevirtual 170) (8) := ri_of (by decide +kernel) rfl
theorem wi_78_8 : ri (rt_P sc fm) 78 8 (.ifCond .ne 5) (11) := ri_of (by decide +kernel) rfl
theorem wm_191 : rx_ml (rt_P sc fm) 191 = 4 := (by decide +kernel : rt_ml 191 = 4)
theorem wm_209 : rx_ml (rt_P sc fm) 209 = 5 := (by decide +kernel : rt_ml 209 = 5)
theorem wr_78 : rx_rt (rt_P sc fm) 78 = (some FieldType.int) := (by decide +kernel : rt_rt 78 = (some FieldType.int))
/-- MarkHouse.find(I)I -/
def d_78 (n : Nat) (a1 : Int32) (c : cS) : Option (Int32 × cS) :=
  Option.bind (d_37 n a1 c) (fun v1 =>
  if v1 = 0 then
    some ((-1), c)
  else
    Option.bind (d_90 n c) (fun r2 =>
    Option.bind (d_188 n r2) (fun r3 =>
    Option.bind (d_191 n a1 r3) (fun r4 =>
    Option.bind (d_209 n a1 r4.2) (fun r6 =>
    Option.bind (d_29 n r6) (fun r7 =>
    some (r4.1, r7)))))))
set_option maxRecDepth 100000 in
set_option maxHeartbeats 4000000 in
theorem sp_78 {F Lo n : Nat} {a1 : Int32} {c y : cS} {w : cW} {K : Int32 × cS → Prop} {Q : ((Option Value) ⊕ String) → List va_E → Prop} (hw : rOK fm w) (hF : 8 ≤ F) (hLo : 181 ≤ Lo)  (h : wp (d_78 n a1 c) K) (hQ : ∀ r, K r → Q (.inl (some (.int r.1))) (hq true r.2 y w)) : rs (rt_P sc fm) 78 F Lo 0 [(0, .ref 0), (1, .int a1)] [] (hq true c y w) Q := by
  unfold d_78 at h
  obtain ⟨lv, elv⟩ : ∃ lv : rx_L, lv = [(0, .ref 0), (1, .int a1)] := ⟨_, rfl⟩
  rw [← elv]
  have l0 : rx_ld lv 0 = some (.ref 0) := by rw [elv]; rfl
  have l1 : rx_ld lv 1 = some (.int a1) := by rw [elv]; rfl
  refine rs_aldn wi_78_0 l0 ?_
  refine dq_gr wi_78_1 wf_78_19 tf_0_1 ?_
  refine rs_ildn wi_78_4 l1 ?_
  refine rs_V wi_78_5 wc_78_170 rfl (dq_isa tf_7_0 wa_9_37) (Nat.le_trans (by decide) hF) (ml_le wm_37 (Nat.le_trans (by decide) hLo)) rfl (sp_37 hw (Nat.le_trans (by decide : 0 ≤ 8 - 1) (Nat.sub_le_sub_right hF 1)) (ml_sub wm_37 (Nat.le_trans (by decide : 0 ≤ 181 - 21) (Nat.sub_le_sub_right hLo 21))) (wp_bind h) (fun v1 h => rs_back1 ?_))
  refine rs_ifne (tg := 13) wi_78_8 ⟨by decide, by decide⟩ (fun q => ?_) (fun q => ?_)
  ·
    have h := wp_neg h q
    refine rs_aldn wi_78_13 l0 ?_
    refine rs_V wi_78_14 wc_78_108 rfl (dq_isa tf_0_0 wa_14_90) (Nat.le_trans (by decide) hF) (ml_le wm_90 (Nat.le_trans (by decide) hLo)) rfl (sp_90 hw (Nat.le_trans (by decide : 3 ≤ 8 - 1) (Nat.sub_le_sub_right hF 1)) (ml_sub wm_90 (Nat.le_trans (by decide : 66 ≤ 181 - 20) (Nat.sub_le_sub_right hLo 20))) (wp_bind h) (fun r2 h => rs_back0 ?_))
    refine rs_aldn wi_78_17 l0 ?_
    refine dq_gr wi_78_18 wf_78_53 tf_0_5 ?_
    refine rs_V wi_78_21 wc_78_269 rfl (dq_isa tf_146_0 wa_4_188) (Nat.le_trans (by decide) hF) (ml_le wm_188 (Nat.le_trans (by decide) hLo)) rfl (sp_188 hw (Nat.le_trans (by decide : 7 ≤ 8 - 1) (Nat.sub_le_sub_right hF 1)) (ml_sub wm_188 (Nat.le_trans (by decide : 155 ≤ 181 - 22) (Nat.sub_le_sub_right hLo 22))) (wp_bind h) (fun r3 h => rs_back0 ?_))
    refine rs_aldn wi_78_24 l0 ?_
    refine dq_gr wi_78_25 wf_78_53 tf_0_5 ?_
    refine rs_ildn wi_78_28 l1 ?_
    refine rs_V wi_78_29 wc_78_306 rfl (dq_isa tf_146_0 wa_4_191) (Nat.le_trans (by decide) hF) (ml_le wm_191 (Nat.le_trans (by decide) hLo)) rfl (sp_191 hw (Nat.le_trans (by decide : 2 ≤ 8 - 1) (Nat.sub_le_sub_right hF 1)) (ml_sub wm_191 (Nat.le_trans (by decide : 44 ≤ 181 - 23) (Nat.sub_le_sub_right hLo 23))) (wp_bind h) (fun r4 h => rs_back1 ?_))
    refine dl_istn wi_78_32 rfl (fun lv l2 t5 => ?_)
    have l0 := t5 _ _ (by decide) (Or.inl rfl) l0
    have l1 := t5 _ _ (by decide) (Or.inl rfl) l1
    refine rs_aldn wi_78_33 l0 ?_
    refine dq_gr wi_78_34 wf_78_62 tf_0_6 ?_
    refine rs_ildn wi_78_37 l1 ?_
    refine rs_V wi_78_38 wc_78_309 rfl (dq_isa tf_150_0 wa_5_209) (Nat.le_trans (by decide) hF) (ml_le wm_209 (Nat.le_trans (by decide) hLo)) rfl (sp_209 hw (Nat.le_trans (by decide : 6 ≤ 8 - 1) (Nat.sub_le_sub_right hF 1)) (ml_sub wm_209 (Nat.le_trans (by decide : 157 ≤ 181 - 24) (Nat.sub_le_sub_right hLo 24))) (wp_bind h) (fun r6 h => rs_back0 ?_))
    refine rs_aldn wi_78_41 l0 ?_
    refine dq_gr wi_78_42 wf_78_62 tf_0_6 ?_
    refine rs_V wi_78_45 wc_78_312 rfl (dq_isa tf_150_0 wa_5_29) (Nat.le_trans (by decide) hF) (ml_le wm_29 (Nat.le_trans (by decide) hLo)) rfl (sp_29 hw (Nat.le_trans (by decide : 0 ≤ 8 - 1) (Nat.sub_le_sub_right hF 1)) (ml_sub wm_29 (Nat.le_trans (by decide : 0 ≤ 181 - 20) (Nat.sub_le_sub_right hLo 20))) (wp_bind h) (fun r7 h => rs_back0 ?_))
    refine rs_ildn wi_78_48 l2 ?_
    exact rs_iret wi_78_49 wr_78 rfl (hQ (r4.1, r7) h)
  ·
    have h := wp_pos h q
    refine rs_pure wi_78_11 rfl ?_
    refine rs_topi (v := (-1)) (by decide) ?_
    exact rs_iret wi_78_12 wr_78 rfl (hQ ((-1), c) h)
theorem wc_79_108 : rx_ct (rt_P sc fm) 79 108 = some (0, 90, 0) := (by decide +kernel : rt_ct 79 108 = some (0, 90, 0))
theorem wc_79_170 : rx_ct (rt_P sc fm) 79 170 = some (0, 37, 1) := (by decide +kernel : rt_ct 79 170 = some (0, 37, 1))
theorem wc_79_316 : rx_ct (rt_P sc fm) 79 316 = some (0, 177, 2) := (by decide +kernel : rt_ct 79 316 = some (0, 177, 2))
theorem wf_79_174 : rx_ft (rt_P sc fm) 79 174 = some (9, 1) := (by decide +kernel : rt_ft 79 174 = some (9, 1))
theorem wf_79_19 : rx_ft (rt_P sc fm) 79 19 = some (14, 1) := (by decide +kernel : rt_ft 79 19 = some (14, 1))
theorem wf_79_313 : rx_ft (rt_P sc fm) 79 313 = some (8, 2) := (by decide +kernel : rt_ft 79 313 = some (8, 2))
theorem wf_79_53 : rx_ft (rt_P sc fm) 79 53 = some (14, 5) := (by decide +kernel : rt_ft 79 53 = some (14, 5))
theorem wi_79_0 : ri (rt_P sc fm) 79 0 (.aload_n 0) (1) := ri_of (by decide +kernel) rfl
theorem wi_79_1 : ri (rt_P sc fm) 79 1 (.getfield 19) (4) := ri_of (by decide +kernel) rfl
theorem wi_79_11 : ri (rt_P sc fm) 79 11 (.iconst 0) (12) := ri_of (by decide +kernel) rfl
theorem wi_79_12 : ri (rt_P sc fm) 79 12 (.ireturn) (13) := ri_of (by decide +kernel) rfl
theorem wi_79_13 : ri (rt_P sc fm) 79 13 (.aload_n 0) (14) := ri_of (by decide +kernel) rfl
theorem wi_79_14 : ri (rt_P sc fm) 79 14 (.invokevirtual 108) (17) := ri_of (by decide +kernel) rfl
theorem wi_79_17 : ri (rt_P sc fm) 79 17 (.aload_n 0) (18) := ri_of (by decide +kernel) rfl
theorem wi_79_18 : ri (rt_P sc fm) 79 18 (.getfield 53) (21) := ri_of (by decide +kernel) rfl
theorem wi_79_21 : ri (rt_P sc fm) 79 21 (.iload_n 1) (22) := ri_of (by decide +kernel) rfl
theorem wi_79_22 : ri (rt_P sc fm) 79 22 (.aload_n 0) (23) := ri_of (by decide +kernel) rfl
theorem wi_79_23 : ri (rt_P sc fm) 79 23 (.getfield 19) (26) := ri_of (by decide +kernel) rfl
theorem wi_79_26 : ri (rt_P sc fm) 79 26 (.getfield 174) (29) := ri_of (by decide +kernel) rfl
theorem wi_79_29 : ri (rt_P sc fm) 79 29 (.iload_n 1) (30) := ri_of (by decide +kernel) rfl
theorem wi_79_30 : ri (rt_P sc fm) 79 30 (.aaload) (31) := ri_of (by decide +kernel) rfl
theorem wi_79_31 : ri (rt_P sc fm) 79 31 (.getfield 313) (34) := ri_of (by decide +kernel) rfl
theorem wi_79_34 : ri (rt_P sc fm) 79 34 (.invokevirtual 316) (37) := ri_of (by decide +kernel) rfl
theorem wi_79_37 : ri (rt_P sc fm) 79 37 (.iconst 1) (38) := ri_of (by decide +kernel) rfl
theorem wi_79_38 : ri (rt_P sc fm) 79 38 (.ireturn) (39) := ri_of (by decide +kernel) rfl
theorem wi_79_4 : ri (rt_P sc fm) 79 4 (.iload_n 1) (5) := ri_of (by decide +kernel) rfl
theorem wi_79_5 : ri (rt_P sc fm) 79 5 (.invokevirtual 170) (8) := ri_of (by decide +kernel) rfl
theorem wi_79_8 : ri (rt_P sc fm) 79 8 (.ifCond .ne 5) (11) := ri_of (by decide +kernel) rfl
theorem wr_79 : rx_rt (rt_P sc fm) 79 = (some FieldType.boolean) := (by decide +kernel : rt_rt 79 = (some FieldType.boolean))
/-- MarkHouse.plain(I)Z -/
def d_79 (n : Nat) (a1 : Int32) (c : cS) : Option (Int32 × cS) :=
  Option.bind (d_37 n a1 c) (fun v1 =>
  if v1 = 0 then
    some (0, c)
  else
    Option.bind (d_90 n c) (fun r2 =>
    if ib a1 4 then
    Option.bind (d_177 n a1 (r2.1 (oA (ix a1)) 2) r2) (fun r4 =>
    some (1, r4))
    else none))
set_option maxRecDepth 100000 in
set_option maxHeartbeats 4000000 in
theorem sp_79 {F Lo n : Nat} {a1 : Int32} {c y : cS} {w : cW} {K : Int32 × cS → Prop} {Q : ((Option Value) ⊕ String) → List va_E → Prop} (hw : rOK fm w) (hF : 4 ≤ F) (hLo : 86 ≤ Lo)  (h : wp (d_79 n a1 c) K) (hQ : ∀ r, K r → Q (.inl (some (.int r.1))) (hq true r.2 y w)) : rs (rt_P sc fm) 79 F Lo 0 [(0, .ref 0), (1, .int a1)] [] (hq true c y w) Q := by
  unfold d_79 at h
  obtain ⟨lv, elv⟩ : ∃ lv : rx_L, lv = [(0, .ref 0), (1, .int a1)] := ⟨_, rfl⟩
  rw [← elv]
  have l0 : rx_ld lv 0 = some (.ref 0) := by rw [elv]; rfl
  have l1 : rx_ld lv 1 = some (.int a1) := by rw [elv]; rfl
  refine rs_aldn wi_79_0 l0 ?_
  refine dq_gr wi_79_1 wf_79_19 tf_0_1 ?_
  refine rs_ildn wi_79_4 l1 ?_
  refine rs_V wi_79_5 wc_79_170 rfl (dq_isa tf_7_0 wa_9_37) (Nat.le_trans (by decide) hF) (ml_le wm_37 (Nat.le_trans (by decide) hLo)) rfl (sp_37 hw (Nat.le_trans (by decide : 0 ≤ 4 - 1) (Nat.sub_le_sub_right hF 1)) (ml_sub wm_37 (Nat.le_trans (by decide : 0 ≤ 86 - 21) (Nat.sub_le_sub_right hLo 21))) (wp_bind h) (fun v1 h => rs_back1 ?_))
  refine rs_ifne (tg := 13) wi_79_8 ⟨by decide, by decide⟩ (fun q => ?_) (fun q => ?_)
  ·
    have h := wp_neg h q
    refine rs_aldn wi_79_13 l0 ?_
    refine rs_V wi_79_14 wc_79_108 rfl (dq_isa tf_0_0 wa_14_90) (Nat.le_trans (by decide) hF) (ml_le wm_90 (Nat.le_trans (by decide) hLo)) rfl (sp_90 hw (Nat.le_trans (by decide : 3 ≤ 4 - 1) (Nat.sub_le_sub_right hF 1)) (ml_sub wm_90 (Nat.le_trans (by decide : 66 ≤ 86 - 20) (Nat.sub_le_sub_right hLo 20))) (wp_bind h) (fun r2 h => rs_back0 ?_))
    refine rs_aldn wi_79_17 l0 ?_
    refine dq_gr wi_79_18 wf_79_53 tf_0_5 ?_
    refine rs_ildn wi_79_21 l1 ?_
    refine rs_aldn wi_79_22 l0 ?_
    refine dq_gr wi_79_23 wf_79_19 tf_0_1 ?_
    refine dq_gr wi_79_26 wf_79_174 tf_7_1 ?_
    refine rs_ildn wi_79_29 l1 ?_
    obtain ⟨g3, h⟩ := wp_gd h
    refine dq_aald wi_79_30 (by decide) t_8 g3 (hw.1 _ (ib_lt g3)) ?_
    refine dq_gi wi_79_31 wf_79_313 (fO_2 (ib_lt g3)) ?_
    refine rs_V wi_79_34 wc_79_316 rfl (dq_isa tf_146_0 wa_4_177) (Nat.le_trans (by decide) hF) (ml_le wm_177 (Nat.le_trans (by decide) hLo)) rfl (sp_177 hw (Nat.le_trans (by decide : 0 ≤ 4 - 1) (Nat.sub_le_sub_right hF 1)) (ml_sub wm_177 (Nat.le_trans (by decide : 0 ≤ 86 - 23) (Nat.sub_le_sub_right hLo 23))) (wp_bind h) (fun r4 h => rs_back0 ?_))
    refine rs_pure wi_79_37 rfl ?_
    refine rs_topi (v := 1) (by decide) ?_
    exact rs_iret wi_79_38 wr_79 (nb_n (by decide)) (hQ (1, r4) h)
  ·
    have h := wp_pos h q
    refine rs_pure wi_79_11 rfl ?_
    refine rs_topi (v := 0) (by decide) ?_
    exact rs_iret wi_79_12 wr_79 (nb_n (by decide)) (hQ (0, c) h)
theorem wf_211_19 : rx_ft (rt_P sc fm) 211 19 = some (5, 5) := (by decide +kernel : rt_ft 211 19 = some (5, 5))
theorem wf_211_208 : rx_ft (rt_P sc fm) 211 208 = some (2, 13) := (by decide +kernel : rt_ft 211 208 = some (2, 13))
theorem wf_211_45 : rx_ft (rt_P sc fm) 211 45 = some (5, 1) := (by decide +kernel : rt_ft 211 45 = some (5, 1))
theorem wf_211_53 : rx_ft (rt_P sc fm) 211 53 = some (5, 6) := (by decide +kernel : rt_ft 211 53 = some (5, 6))
theorem wf_211_76 : rx_ft (rt_P sc fm) 211 76 = some (2, 5) := (by decide +kernel : rt_ft 211 76 = some (2, 5))
theorem wf_211_9 : rx_ft (rt_P sc fm) 211 9 = some (5, 3) := (by decide +kernel : rt_ft 211 9 = some (5, 3))
theorem wi_211_0 : ri (rt_P sc fm) 211 0 (.iconst 0) (1) := ri_of (by decide +kernel) rfl
theorem wi_211_1 : ri (rt_P sc fm) 211 1 (.istore_n 1) (2) := ri_of (by decide +kernel) rfl
theorem wi_211_10 : ri (rt_P sc fm) 211 10 (.aload_n 0) (11) := ri_of (by decide +kernel) rfl
theorem wi_211_11 : ri (rt_P sc fm) 211 11 (.getfield 19) (14) := ri_of (by decide +kernel) rfl
theorem wi_211_14 : ri (rt_P sc fm) 211 14 (.iload_n 1) (15) := ri_of (by decide +kernel) rfl
theorem wi_211_15 : ri (rt_P sc fm) 211 15 (.iaload) (16) := ri_of (by decide +kernel) rfl
theorem wi_211_16 : ri (rt_P sc fm) 211 16 (.sipush 160) (19) := ri_of (by decide +kernel) rfl
theorem wi_211_19 : ri (rt_P sc fm) 211 19 (.idiv) (20) := ri_of (by decide +kernel) rfl
theorem wi_211_2 : ri (rt_P sc fm) 211 2 (.iload_n 1) (3) := ri_of (by decide +kernel) rfl
theorem wi_211_20 : ri (rt_P sc fm) 211 20 (.istore_n 2) (21) := ri_of (by decide +kernel) rfl
theorem wi_211_21 : ri (rt_P sc fm) 211 21 (.aload_n 0) (22) := ri_of (by decide +kernel) rfl
theorem wi_211_22 : ri (rt_P sc fm) 211 22 (.getfield 19) (25) := ri_of (by decide +kernel) rfl
theorem wi_211_25 : ri (rt_P sc fm) 211 25 (.iload_n 1) (26) := ri_of (by decide +kernel) rfl
theorem wi_211_26 : ri (rt_P sc fm) 211 26 (.iaload) (27) := ri_of (by decide +kernel) rfl
theorem wi_211_27 : ri (rt_P sc fm) 211 27 (.sipush 160) (30) := ri_of (by decide +kernel) rfl
theorem wi_211_3 : ri (rt_P sc fm) 211 3 (.aload_n 0) (4) := ri_of (by decide +kernel) rfl
theorem wi_211_30 : ri (rt_P sc fm) 211 30 (.irem) (31) := ri_of (by decide +kernel) rfl
theorem wi_211_31 : ri (rt_P sc fm) 211 31 (.iconst 4) (32) := ri_of (by decide +kernel) rfl
theorem wi_211_32 : ri (rt_P sc fm) 211 32 (.idiv) (33) := ri_of (by decide +kernel) rfl
theorem wi_211_33 : ri (rt_P sc fm) 211 33 (.istore_n 3) (34) := ri_of (by decide +kernel) rfl
theorem wi_211_34 : ri (rt_P sc fm) 211 34 (.aload_n 0) (35) := ri_of (by decide +kernel) rfl
theorem wi_211_35 : ri (rt_P sc fm) 211 35 (.getfield 45) (38) := ri_of (by decide +kernel) rfl
theorem wi_211_38 : ri (rt_P sc fm) 211 38 (.getfield 208) (41) := ri_of (by decide +kernel) rfl
theorem wi_211_4 : ri (rt_P sc fm) 211 4 (.getfield 53) (7) := ri_of (by decide +kernel) rfl
theorem wi_211_41 : ri (rt_P sc fm) 211 41 (.aload_n 0) (42) := ri_of (by decide +kernel) rfl
theorem wi_211_42 : ri (rt_P sc fm) 211 42 (.getfield 45) (45) := ri_of (by decide +kernel) rfl
theorem wi_211_45 : ri (rt_P sc fm) 211 45 (.getfield 76) (48) := ri_of (by decide +kernel) rfl
theorem wi_211_48 : ri (rt_P sc fm) 211 48 (.iload_n 2) (49) := ri_of (by decide +kernel) rfl
theorem wi_211_49 : ri (rt_P sc fm) 211 49 (.iaload) (50) := ri_of (by decide +kernel) rfl
theorem wi_211_50 : ri (rt_P sc fm) 211 50 (.iload_n 3) (51) := ri_of (by decide +kernel) rfl
theorem wi_211_51 : ri (rt_P sc fm) 211 51 (.iadd) (52) := ri_of (by decide +kernel) rfl
theorem wi_211_52 : ri (rt_P sc fm) 211 52 (.dup2) (53) := ri_of (by decide +kernel) rfl
theorem wi_211_53 : ri (rt_P sc fm) 211 53 (.iaload) (54) := ri_of (by decide +kernel) rfl
theorem wi_211_54 : ri (rt_P sc fm) 211 54 (.iconst 1) (55) := ri_of (by decide +kernel) rfl
theorem wi_211_55 : ri (rt_P sc fm) 211 55 (.iconst 4) (56) := ri_of (by decide +kernel) rfl
theorem wi_211_56 : ri (rt_P sc fm) 211 56 (.aload_n 0) (57) := ri_of (by decide +kernel) rfl
theorem wi_211_57 : ri (rt_P sc fm) 211 57 (.getfield 9) (60) := ri_of (by decide +kernel) rfl
theorem wi_211_60 : ri (rt_P sc fm) 211 60 (.imul) (61) := ri_of (by decide +kernel) rfl
theorem wi_211_61 : ri (rt_P sc fm) 211 61 (.aload_n 0) (62) := ri_of (by decide +kernel) rfl
theorem wi_211_62 : ri (rt_P sc fm) 211 62 (.getfield 19) (65) := ri_of (by decide +kernel) rfl
theorem wi_211_65 : ri (rt_P sc fm) 211 65 (.iload_n 1) (66) := ri_of (by decide +kernel) rfl
theorem wi_211_66 : ri (rt_P sc fm) 211 66 (.iaload) (67) := ri_of (by decide +kernel) rfl
theorem wi_211_67 : ri (rt_P sc fm) 211 67 (.iconst 4) (68) := ri_of (by decide +kernel) rfl
theorem wi_211_68 : ri (rt_P sc fm) 211 68 (.irem) (69) := ri_of (by decide +kernel) rfl
theorem wi_211_69 : ri (rt_P sc fm) 211 69 (.iadd) (70) := ri_of (by decide +kernel) rfl
theorem wi_211_7 : ri (rt_P sc fm) 211 7 (.if_icmp .ge 72) (10) := ri_of (by decide +kernel) rfl
theorem wi_211_70 : ri (rt_P sc fm) 211 70 (.ishl) (71) := ri_of (by decide +kernel) rfl
theorem wi_211_71 : ri (rt_P sc fm) 211 71 (.ior) (72) := ri_of (by decide +kernel) rfl
theorem wi_211_72 : ri (rt_P sc fm) 211 72 (.iastore) (73) := ri_of (by decide +kernel) rfl
theorem wi_211_73 : ri (rt_P sc fm) 211 73 (.iinc 1 1) (76) := ri_of (by decide +kernel) rfl
theorem wi_211_76 : ri (rt_P sc fm) 211 76 (.goto (-74)) (79) := ri_of (by decide +kernel) rfl
theorem wi_211_79 : ri (rt_P sc fm) 211 79 (.aload_n 0) (80) := ri_of (by decide +kernel) rfl
theorem wi_211_80 : ri (rt_P sc fm) 211 80 (.getfield 53) (83) := ri_of (by decide +kernel) rfl
theorem wi_211_83 : ri (rt_P sc fm) 211 83 (.ireturn) (84) := ri_of (by decide +kernel) rfl
theorem wr_211 : rx_rt (rt_P sc fm) 211 = (some FieldType.int) := (by decide +kernel : rt_rt 211 = (some FieldType.int))
/-- MarkHouse$Flow.putChecks()I -/
def d_211 (n : Nat)  (c : cS) : Option (Int32 × cS) :=
  Option.bind (whl (R := (cS)) (fun s2 : Int32 × cS =>
    if (s2.2.1 150 6) ≤ s2.1 then
      some (.inr s2.2)
    else
      if ib s2.1 2048 then
      lt (((s2.2.1 152 (ix s2.1)) / 160) : Int32) (fun v5 =>
      if ib s2.1 2048 then
      lt ((((s2.2.1 152 (ix s2.1)) - (s2.2.1 152 (ix s2.1)) / 160 * 160) / 4) : Int32) (fun v9 =>
      if ib v5 96 then
      if ib ((s2.2.1 119 (ix v5)) + v9) 1024 then
      if ib s2.1 2048 then
      if ib ((s2.2.1 119 (ix v5)) + v9) 1024 then
      lt (pI s2.2 126 (ix ((s2.2.1 119 (ix v5)) + v9)) ((s2.2.1 126 (ix ((s2.2.1 119 (ix v5)) + v9))) ||| (1 <<< (((4 * (s2.2.1 150 3)) + ((s2.2.1 152 (ix s2.1)) - (s2.2.1 152 (ix s2.1)) / 4 * 4)) &&& 31)))) (fun c15 =>
      lt (s2.1 + 1 : Int32) (fun v18 =>
      some (.inl (v18, c15))))
      else none
      else none
      else none
      else none)
      else none)
      else none) n (0, c))
  (fun x20 : cS =>
    some ((x20.1 150 6), x20))
set_option maxRecDepth 100000 in
set_option maxHeartbeats 4000000 in
theorem sp_211 {F Lo n : Nat}  {c y : cS} {w : cW} {K : Int32 × cS → Prop} {Q : ((Option Value) ⊕ String) → List va_E → Prop} (hw : rOK fm w) (hF : 0 ≤ F) (hLo : 0 ≤ Lo)  (h : wp (d_211 n  c) K) (hQ : ∀ r, K r → Q (.inl (some (.int r.1))) (hq true r.2 y w)) : rs (rt_P sc fm) 211 F Lo 0 [(0, .ref 150)] [] (hq true c y w) Q := by
  unfold d_211 at h
  obtain ⟨lv, elv⟩ : ∃ lv : rx_L, lv = [(0, .ref 150)] := ⟨_, rfl⟩
  rw [← elv]
  have l0 : rx_ld lv 0 = some (.ref 150) := by rw [elv]; rfl
  refine rs_pure wi_211_0 rfl ?_
  refine rs_topi (v := 0) (by decide) ?_
  refine dl_istn wi_211_1 rfl (fun lv l1 t1 => ?_)
  have l0 := t1 _ _ (by decide) (Or.inl rfl) l0
  refine whl_ex (A := fun s2 : Int32 × cS => ∀ lv, rx_ld lv 0 = some (.ref 150) → rx_ld lv 1 = some (.int s2.1) → rs (rt_P sc fm) 211 F Lo 2 lv [] (hq true s2.2 y w) Q) (B := (fun x20 : cS => ∀ lv, rx_ld lv 0 = some (.ref 150) → rs (rt_P sc fm) 211 F Lo 79 lv [] (hq true x20 y w) Q)) ?_ ?_ _ _ (wp_bind h) _ l0 l1
  · intro s2 h lv l0 l1
    refine rs_ildn wi_211_2 l1 ?_
    refine rs_aldn wi_211_3 l0 ?_
    refine dq_gi wi_211_4 wf_211_53 tf_150_6 ?_
    refine rs_icge (tg := 79) wi_211_7 ⟨by decide, by decide⟩ (fun q => ?_) (fun q => ?_)
    ·
      have h := wp_pos h q
      exact h _ l0
    ·
      have h := wp_neg h q
      refine rs_aldn wi_211_10 l0 ?_
      refine dq_gr wi_211_11 wf_211_19 tf_150_5 ?_
      refine rs_ildn wi_211_14 l1 ?_
      obtain ⟨g3, h⟩ := wp_gd h
      refine dq_iald wi_211_15 t_152 g3 ?_
      refine rs_pure wi_211_16 rfl ?_
      refine rs_topi (v := 160) (by decide) ?_
      refine dl_idiv wi_211_19 (by decide) ?_
      obtain ⟨v5, e6, h⟩ := wp_lt h
      refine rs_topi e6 ?_
      refine dl_istn wi_211_20 rfl (fun lv l2 t4 => ?_)
      have l0 := t4 _ _ (by decide) (Or.inl rfl) l0
      have l1 := t4 _ _ (by decide) (Or.inl rfl) l1
      refine rs_aldn wi_211_21 l0 ?_
      refine dq_gr wi_211_22 wf_211_19 tf_150_5 ?_
      refine rs_ildn wi_211_25 l1 ?_
      obtain ⟨g7, h⟩ := wp_gd h
      refine dq_iald wi_211_26 t_152 g7 ?_
      refine rs_pure wi_211_27 rfl ?_
      refine rs_topi (v := 160) (by decide) ?_
      refine dl_irem wi_211_30 (by decide) ?_
      refine rs_pure wi_211_31 rfl ?_
      refine rs_topi (v := 4) (by decide) ?_
      refine dl_idiv wi_211_32 (by decide) ?_
      obtain ⟨v9, e10, h⟩ := wp_lt h
      refine rs_topi e10 ?_
      refine dl_istn wi_211_33 rfl (fun lv l3 t8 => ?_)
      have l0 := t8 _ _ (by decide) (Or.inl rfl) l0
      have l1 := t8 _ _ (by decide) (Or.inl rfl) l1
      have l2 := t8 _ _ (by decide) (Or.inl rfl) l2
      refine rs_aldn wi_211_34 l0 ?_
      refine dq_gr wi_211_35 wf_211_45 tf_150_1 ?_
      refine dq_gr wi_211_38 wf_211_208 tf_114_13 ?_
      refine rs_aldn wi_211_41 l0 ?_
      refine dq_gr wi_211_42 wf_211_45 tf_150_1 ?_
      refine dq_gr wi_211_45 wf_211_76 tf_114_5 ?_
      refine rs_ildn wi_211_48 l2 ?_
      obtain ⟨g11, h⟩ := wp_gd h
      refine dq_iald wi_211_49 t_119 g11 ?_
      refine rs_ildn wi_211_50 l3 ?_
      refine rs_pure wi_211_51 rfl ?_
      refine rs_pure wi_211_52 rfl ?_
      obtain ⟨g12, h⟩ := wp_gd h
      refine dq_iald wi_211_53 t_126 g12 ?_
      refine rs_pure wi_211_54 rfl ?_
      refine rs_topi (v := 1) (by decide) ?_
      refine rs_pure wi_211_55 rfl ?_
      refine rs_topi (v := 4) (by decide) ?_
      refine rs_aldn wi_211_56 l0 ?_
      refine dq_gi wi_211_57 wf_211_9 tf_150_3 ?_
      refine rs_pure wi_211_60 rfl ?_
      refine rs_aldn wi_211_61 l0 ?_
      refine dq_gr wi_211_62 wf_211_19 tf_150_5 ?_
      refine rs_ildn wi_211_65 l1 ?_
      obtain ⟨g13, h⟩ := wp_gd h
      refine dq_iald wi_211_66 t_152 g13 ?_
      refine rs_pure wi_211_67 rfl ?_
      refine rs_topi (v := 4) (by decide) ?_
      refine dl_irem wi_211_68 (by decide) ?_
      refine rs_pure wi_211_69 rfl ?_
      refine rs_pure wi_211_70 rfl ?_
      refine rs_pure wi_211_71 rfl ?_
      obtain ⟨g14, h⟩ := wp_gd h
      obtain ⟨c15, e16, h⟩ := wp_lt h
      refine dq_iast wi_211_72 t_126 g14 e16 ?_
      obtain ⟨v18, e19, h⟩ := wp_lt h
      refine dl_inc wi_211_73 l1 rfl e19 (fun lv l1 t17 => ?_)
      have l0 := t17 _ _ (by decide) (Or.inl rfl) l0
      refine rs_goto (tg := 2) wi_211_76 ⟨by decide, by decide⟩ ?_
      exact h _ l0 l1
  ·
    intro x20 h lv l0
    refine rs_aldn wi_211_79 l0 ?_
    refine dq_gi wi_211_80 wf_211_53 tf_150_6 ?_
    exact rs_iret wi_211_83 wr_211 rfl (hQ ((x20.1 150 6), x20) h)
theorem wa_5_211 : rz_cn 5 (rx_yn (rt_P sc fm) 211).cls = true := (by decide +kernel : rz_cn 5 (rt_yn 211).cls = true)
theorem wc_80_269 : rx_ct (rt_P sc fm) 80 269 = some (0, 188, 0) := (by decide +kernel : rt_ct 80 269 = some (0, 188, 0))
theorem wc_80_278 : rx_ct (rt_P sc fm) 80 278 = some (0, 196, 1) := (by decide +kernel : rt_ct 80 278 = some (0, 196, 1))
theorem wc_80_312 : rx_ct (rt_P sc fm) 80 312 = some (0, 29, 0) := (by decide +kernel : rt_ct 80 312 = some (0, 29, 0))
theorem wc_80_319 : rx_ct (rt_P sc fm) 80 319 = some (0, 20, 0) := (by decide +kernel : rt_ct 80 319 = some (0, 20, 0))
theorem wc_80_325 : rx_ct (rt_P sc fm) 80 325 = some (0, 211, 0) := (by decide +kernel : rt_ct 80 325 = some (0, 211, 0))
theorem wf_80_126 : rx_ft (rt_P sc fm) 80 126 = some (9, 0) := (by decide +kernel : rt_ft 80 126 = some (9, 0))
theorem wf_80_19 : rx_ft (rt_P sc fm) 80 19 = some (14, 1) := (by decide +kernel : rt_ft 80 19 = some (14, 1))
theorem wf_80_28 : rx_ft (rt_P sc fm) 80 28 = some (14, 2) := (by decide +kernel : rt_ft 80 28 = some (14, 2))
theorem wf_80_299 : rx_ft (rt_P sc fm) 80 299 = some (5, 3) := (by decide +kernel : rt_ft 80 299 = some (5, 3))
theorem wf_80_322 : rx_ft (rt_P sc fm) 80 322 = some (9, 2) := (by decide +kernel : rt_ft 80 322 = some (9, 2))
theorem wf_80_53 : rx_ft (rt_P sc fm) 80 53 = some (14, 5) := (by decide +kernel : rt_ft 80 53 = some (14, 5))
theorem wf_80_62 : rx_ft (rt_P sc fm) 80 62 = some (14, 6) := (by decide +kernel : rt_ft 80 62 = some (14, 6))
theorem wi_80_0 : ri (rt_P sc fm) 80 0 (.aload_n 0) (1) := ri_of (by decide +kernel) rfl
theorem wi_80_1 : ri (rt_P sc fm) 80 1 (.getfield 19) (4) := ri_of (by decide +kernel) rfl
theorem wi_80_10 : ri (rt_P sc fm) 80 10 (.iconst (-1)) (11) := ri_of (by decide +kernel) rfl
theorem wi_80_11 : ri (rt_P sc fm) 80 11 (.ireturn) (12) := ri_of (by decide +kernel) rfl
theorem wi_80_12 : ri (rt_P sc fm) 80 12 (.aload_n 0) (13) := ri_of (by decide +kernel) rfl
theorem wi_80_13 : ri (rt_P sc fm) 80 13 (.getfield 53) (16) := ri_of (by decide +kernel) rfl
theorem wi_80_16 : ri (rt_P sc fm) 80 16 (.invokevirtual 269) (19) := ri_of (by decide +kernel) rfl
theorem wi_80_19 : ri (rt_P sc fm) 80 19 (.aload_n 0) (20) := ri_of (by decide +kernel) rfl
theorem wi_80_20 : ri (rt_P sc fm) 80 20 (.getfield 28) (23) := ri_of (by decide +kernel) rfl
theorem wi_80_23 : ri (rt_P sc fm) 80 23 (.invokevirtual 319) (26) := ri_of (by decide +kernel) rfl
theorem wi_80_26 : ri (rt_P sc fm) 80 26 (.aload_n 0) (27) := ri_of (by decide +kernel) rfl
theorem wi_80_27 : ri (rt_P sc fm) 80 27 (.getfield 62) (30) := ri_of (by decide +kernel) rfl
theorem wi_80_30 : ri (rt_P sc fm) 80 30 (.getfield 299) (33) := ri_of (by decide +kernel) rfl
theorem wi_80_33 : ri (rt_P sc fm) 80 33 (.istore_n 1) (34) := ri_of (by decide +kernel) rfl
theorem wi_80_34 : ri (rt_P sc fm) 80 34 (.iconst 0) (35) := ri_of (by decide +kernel) rfl
theorem wi_80_35 : ri (rt_P sc fm) 80 35 (.istore_n 2) (36) := ri_of (by decide +kernel) rfl
theorem wi_80_36 : ri (rt_P sc fm) 80 36 (.iconst 0) (37) := ri_of (by decide +kernel) rfl
theorem wi_80_37 : ri (rt_P sc fm) 80 37 (.istore_n 3) (38) := ri_of (by decide +kernel) rfl
theorem wi_80_38 : ri (rt_P sc fm) 80 38 (.iload_n 3) (39) := ri_of (by decide +kernel) rfl
theorem wi_80_39 : ri (rt_P sc fm) 80 39 (.aload_n 0) (40) := ri_of (by decide +kernel) rfl
theorem wi_80_4 : ri (rt_P sc fm) 80 4 (.getfield 126) (7) := ri_of (by decide +kernel) rfl
theorem wi_80_40 : ri (rt_P sc fm) 80 40 (.getfield 19) (43) := ri_of (by decide +kernel) rfl
theorem wi_80_43 : ri (rt_P sc fm) 80 43 (.getfield 322) (46) := ri_of (by decide +kernel) rfl
theorem wi_80_46 : ri (rt_P sc fm) 80 46 (.if_icmp .ge 27) (49) := ri_of (by decide +kernel) rfl
theorem wi_80_49 : ri (rt_P sc fm) 80 49 (.aload_n 0) (50) := ri_of (by decide +kernel) rfl
theorem wi_80_50 : ri (rt_P sc fm) 80 50 (.getfield 62) (53) := ri_of (by decide +kernel) rfl
theorem wi_80_53 : ri (rt_P sc fm) 80 53 (.iload_n 3) (54) := ri_of (by decide +kernel) rfl
theorem wi_80_54 : ri (rt_P sc fm) 80 54 (.invokevirtual 278) (57) := ri_of (by decide +kernel) rfl
theorem wi_80_57 : ri (rt_P sc fm) 80 57 (.iload_n 2) (58) := ri_of (by decide +kernel) rfl
theorem wi_80_58 : ri (rt_P sc fm) 80 58 (.aload_n 0) (59) := ri_of (by decide +kernel) rfl
theorem wi_80_59 : ri (rt_P sc fm) 80 59 (.getfield 62) (62) := ri_of (by decide +kernel) rfl
theorem wi_80_62 : ri (rt_P sc fm) 80 62 (.invokevirtual 325) (65) := ri_of (by decide +kernel) rfl
theorem wi_80_65 : ri (rt_P sc fm) 80 65 (.iadd) (66) := ri_of (by decide +kernel) rfl
theorem wi_80_66 : ri (rt_P sc fm) 80 66 (.istore_n 2) (67) := ri_of (by decide +kernel) rfl
theorem wi_80_67 : ri (rt_P sc fm) 80 67 (.iinc 3 1) (70) := ri_of (by decide +kernel) rfl
theorem wi_80_7 : ri (rt_P sc fm) 80 7 (.ifCond .ne 5) (10) := ri_of (by decide +kernel) rfl
theorem wi_80_70 : ri (rt_P sc fm) 80 70 (.goto (-32)) (73) := ri_of (by decide +kernel) rfl
theorem wi_80_73 : ri (rt_P sc fm) 80 73 (.iload_n 1) (74) := ri_of (by decide +kernel) rfl
theorem wi_80_74 : ri (rt_P sc fm) 80 74 (.ifCond .lt 14) (77) := ri_of (by decide +kernel) rfl
theorem wi_80_77 : ri (rt_P sc fm) 80 77 (.aload_n 0) (78) := ri_of (by decide +kernel) rfl
theorem wi_80_78 : ri (rt_P sc fm) 80 78 (.getfield 62) (81) := ri_of (by decide +kernel) rfl
theorem wi_80_81 : ri (rt_P sc fm) 80 81 (.iload_n 1) (82) := ri_of (by decide +kernel) rfl
theorem wi_80_82 : ri (rt_P sc fm) 80 82 (.invokevirtual 278) (85) := ri_of (by decide +kernel) rfl
theorem wi_80_85 : ri (rt_P sc fm) 80 85 (.goto 10) (88) := ri_of (by decide +kernel) rfl
theorem wi_80_88 : ri (rt_P sc fm) 80 88 (.aload_n 0) (89) := ri_of (by decide +kernel) rfl
theorem wi_80_89 : ri (rt_P sc fm) 80 89 (.getfield 62) (92) := ri_of (by decide +kernel) rfl
theorem wi_80_92 : ri (rt_P sc fm) 80 92 (.invokevirtual 312) (95) := ri_of (by decide +kernel) rfl
theorem wi_80_95 : ri (rt_P sc fm) 80 95 (.iload_n 2) (96) := ri_of (by decide +kernel) rfl
theorem wi_80_96 : ri (rt_P sc fm) 80 96 (.ireturn) (97) := ri_of (by decide +kernel) rfl
theorem wm_211 : rx_ml (rt_P sc fm) 211 = 4 := (by decide +kernel : rt_ml 211 = 4)
theorem wr_80 : rx_rt (rt_P sc fm) 80 = (some FieldType.int) := (by decide +kernel : rt_rt 80 = (some FieldType.int))
/-- MarkHouse.weave()I -/
def d_80 (n : Nat)  (c : cS) : Option (Int32 × cS) :=
  if (c.1 7 0) = 0 then
    some ((-1), c)
  else
    Option.bind (d_188 n c) (fun r1 =>
    Option.bind (d_20 n r1) (fun r2 =>
    lt ((r2.1 150 3) : Int32) (fun v4 =>
    Option.bind (whl (R := (Int32 × cS)) (fun s8 : Int32 × Int32 × cS =>
      if (s8.2.2.1 7 2) ≤ s8.2.1 then
        some (.inr (s8.1, s8.2.2))
      else
        Option.bind (d_196 n s8.2.1 s8.2.2) (fun r9 =>
        Option.bind (d_211 n r9) (fun r10 =>
        lt ((s8.1 + r10.1) : Int32) (fun v12 =>
        lt (s8.2.1 + 1 : Int32) (fun v15 =>
        some (.inl (v12, v15, r10.2))))))) n (0, 0, r2))
    (fun x17 : Int32 × cS =>
      jn (fun p18 : cS =>
        some (x17.1, p18))
      (fun j95 =>
      if v4 < 0 then
        Option.bind (d_29 n x17.2) (fun r19 =>
        j95 r19)
      else
        Option.bind (d_196 n v4 x17.2) (fun r20 =>
        j95 r20))))))
set_option maxRecDepth 100000 in
set_option maxHeartbeats 4000000 in
theorem sp_80 {F Lo n : Nat}  {c y : cS} {w : cW} {K : Int32 × cS → Prop} {Q : ((Option Value) ⊕ String) → List va_E → Prop} (hw : rOK fm w) (hF : 8 ≤ F) (hLo : 177 ≤ Lo)  (h : wp (d_80 n  c) K) (hQ : ∀ r, K r → Q (.inl (some (.int r.1))) (hq true r.2 y w)) : rs (rt_P sc fm) 80 F Lo 0 [(0, .ref 0)] [] (hq true c y w) Q := by
  unfold d_80 at h
  obtain ⟨lv, elv⟩ : ∃ lv : rx_L, lv = [(0, .ref 0)] := ⟨_, rfl⟩
  rw [← elv]
  have l0 : rx_ld lv 0 = some (.ref 0) := by rw [elv]; rfl
  refine rs_aldn wi_80_0 l0 ?_
  refine dq_gr wi_80_1 wf_80_19 tf_0_1 ?_
  refine dq_gi wi_80_4 wf_80_126 tf_7_0 ?_
  refine rs_ifne (tg := 12) wi_80_7 ⟨by decide, by decide⟩ (fun q => ?_) (fun q => ?_)
  ·
    have h := wp_neg h q
    refine rs_aldn wi_80_12 l0 ?_
    refine dq_gr wi_80_13 wf_80_53 tf_0_5 ?_
    refine rs_V wi_80_16 wc_80_269 rfl (dq_isa tf_146_0 wa_4_188) (Nat.le_trans (by decide) hF) (ml_le wm_188 (Nat.le_trans (by decide) hLo)) rfl (sp_188 hw (Nat.le_trans (by decide : 7 ≤ 8 - 1) (Nat.sub_le_sub_right hF 1)) (ml_sub wm_188 (Nat.le_trans (by decide : 155 ≤ 177 - 22) (Nat.sub_le_sub_right hLo 22))) (wp_bind h) (fun r1 h => rs_back0 ?_))
    refine rs_aldn wi_80_19 l0 ?_
    refine dq_gr wi_80_20 wf_80_28 tf_0_2 ?_
    refine rs_V wi_80_23 wc_80_319 rfl (dq_isa tf_114_0 wa_2_20) (Nat.le_trans (by decide) hF) (ml_le wm_20 (Nat.le_trans (by decide) hLo)) rfl (sp_20 hw (Nat.le_trans (by decide : 2 ≤ 8 - 1) (Nat.sub_le_sub_right hF 1)) (ml_sub wm_20 (Nat.le_trans (by decide : 46 ≤ 177 - 20) (Nat.sub_le_sub_right hLo 20))) (wp_bind h) (fun r2 h => rs_back0 ?_))
    refine rs_aldn wi_80_26 l0 ?_
    refine dq_gr wi_80_27 wf_80_62 tf_0_6 ?_
    refine dq_gi wi_80_30 wf_80_299 tf_150_3 ?_
    obtain ⟨v4, e5, h⟩ := wp_lt h
    refine rs_topi e5 ?_
    refine dl_istn wi_80_33 rfl (fun lv l1 t3 => ?_)
    have l0 := t3 _ _ (by decide) (Or.inl rfl) l0
    refine rs_pure wi_80_34 rfl ?_
    refine rs_topi (v := 0) (by decide) ?_
    refine dl_istn wi_80_35 rfl (fun lv l2 t6 => ?_)
    have l0 := t6 _ _ (by decide) (Or.inl rfl) l0
    have l1 := t6 _ _ (by decide) (Or.inl rfl) l1
    refine rs_pure wi_80_36 rfl ?_
    refine rs_topi (v := 0) (by decide) ?_
    refine dl_istn wi_80_37 rfl (fun lv l3 t7 => ?_)
    have l0 := t7 _ _ (by decide) (Or.inl rfl) l0
    have l1 := t7 _ _ (by decide) (Or.inl rfl) l1
    have l2 := t7 _ _ (by decide) (Or.inl rfl) l2
    refine whl_ex (A := fun s8 : Int32 × Int32 × cS => ∀ lv, rx_ld lv 0 = some (.ref 0) → rx_ld lv 1 = some (.int v4) → rx_ld lv 2 = some (.int s8.1) → rx_ld lv 3 = some (.int s8.2.1) → rs (rt_P sc fm) 80 F Lo 38 lv [] (hq true s8.2.2 y w) Q) (B := (fun x17 : Int32 × cS => ∀ lv, rx_ld lv 0 = some (.ref 0) → rx_ld lv 1 = some (.int v4) → rx_ld lv 2 = some (.int x17.1) → rs (rt_P sc fm) 80 F Lo 73 lv [] (hq true x17.2 y w) Q)) ?_ ?_ _ _ (wp_bind h) _ l0 l1 l2 l3
    · intro s8 h lv l0 l1 l2 l3
      refine rs_ildn wi_80_38 l3 ?_
      refine rs_aldn wi_80_39 l0 ?_
      refine dq_gr wi_80_40 wf_80_19 tf_0_1 ?_
      refine dq_gi wi_80_43 wf_80_322 tf_7_2 ?_
      refine rs_icge (tg := 73) wi_80_46 ⟨by decide, by decide⟩ (fun q => ?_) (fun q => ?_)
      ·
        have h := wp_pos h q
        exact h _ l0 l1 l2
      ·
        have h := wp_neg h q
        refine rs_aldn wi_80_49 l0 ?_
        refine dq_gr wi_80_50 wf_80_62 tf_0_6 ?_
        refine rs_ildn wi_80_53 l3 ?_
        refine rs_V wi_80_54 wc_80_278 rfl (dq_isa tf_150_0 wa_5_196) (Nat.le_trans (by decide) hF) (ml_le wm_196 (Nat.le_trans (by decide) hLo)) rfl (sp_196 hw (Nat.le_trans (by decide : 5 ≤ 8 - 1) (Nat.sub_le_sub_right hF 1)) (ml_sub wm_196 (Nat.le_trans (by decide : 132 ≤ 177 - 22) (Nat.sub_le_sub_right hLo 22))) (wp_bind h) (fun r9 h => rs_back0 ?_))
        refine rs_ildn wi_80_57 l2 ?_
        refine rs_aldn wi_80_58 l0 ?_
        refine dq_gr wi_80_59 wf_80_62 tf_0_6 ?_
        refine rs_V wi_80_62 wc_80_325 rfl (dq_isa tf_150_0 wa_5_211) (Nat.le_trans (by decide) hF) (ml_le wm_211 (Nat.le_trans (by decide) hLo)) rfl (sp_211 hw (Nat.le_trans (by decide : 0 ≤ 8 - 1) (Nat.sub_le_sub_right hF 1)) (ml_sub wm_211 (Nat.le_trans (by decide : 0 ≤ 177 - 23) (Nat.sub_le_sub_right hLo 23))) (wp_bind h) (fun r10 h => rs_back1 ?_))
        refine rs_pure wi_80_65 rfl ?_
        obtain ⟨v12, e13, h⟩ := wp_lt h
        refine rs_topi e13 ?_
        refine dl_istn wi_80_66 rfl (fun lv l2 t11 => ?_)
        have l0 := t11 _ _ (by decide) (Or.inl rfl) l0
        have l1 := t11 _ _ (by decide) (Or.inl rfl) l1
        have l3 := t11 _ _ (by decide) (Or.inl rfl) l3
        obtain ⟨v15, e16, h⟩ := wp_lt h
        refine dl_inc wi_80_67 l3 rfl e16 (fun lv l3 t14 => ?_)
        have l0 := t14 _ _ (by decide) (Or.inl rfl) l0
        have l1 := t14 _ _ (by decide) (Or.inl rfl) l1
        have l2 := t14 _ _ (by decide) (Or.inl rfl) l2
        refine rs_goto (tg := 38) wi_80_70 ⟨by decide, by decide⟩ ?_
        exact h _ l0 l1 l2 l3
    ·
      intro x17 h lv l0 l1 l2
      refine rs_ildn wi_80_73 l1 ?_
      refine wp_jn (B := fun p18 : cS => ∀ lv, rx_ld lv 2 = some (.int x17.1) → rs (rt_P sc fm) 80 F Lo 95 lv [] (hq true p18 y w) Q) h (fun p18 h lv l2 => ?_) (fun j95 hj95 h => ?_)
      ·
        refine rs_ildn wi_80_95 l2 ?_
        exact rs_iret wi_80_96 wr_80 rfl (hQ (x17.1, p18) h)
      refine rs_iflt (tg := 88) wi_80_74 ⟨by decide, by decide⟩ (fun q => ?_) (fun q => ?_)
      ·
        have h := wp_pos h q
        refine rs_aldn wi_80_88 l0 ?_
        refine dq_gr wi_80_89 wf_80_62 tf_0_6 ?_
        refine rs_V wi_80_92 wc_80_312 rfl (dq_isa tf_150_0 wa_5_29) (Nat.le_trans (by decide) hF) (ml_le wm_29 (Nat.le_trans (by decide) hLo)) rfl (sp_29 hw (Nat.le_trans (by decide : 0 ≤ 8 - 1) (Nat.sub_le_sub_right hF 1)) (ml_sub wm_29 (Nat.le_trans (by decide : 0 ≤ 177 - 20) (Nat.sub_le_sub_right hLo 20))) (wp_bind h) (fun r19 h => rs_back0 ?_))
        exact hj95 _ h _ l2
      ·
        have h := wp_neg h q
        refine rs_aldn wi_80_77 l0 ?_
        refine dq_gr wi_80_78 wf_80_62 tf_0_6 ?_
        refine rs_ildn wi_80_81 l1 ?_
        refine rs_V wi_80_82 wc_80_278 rfl (dq_isa tf_150_0 wa_5_196) (Nat.le_trans (by decide) hF) (ml_le wm_196 (Nat.le_trans (by decide) hLo)) rfl (sp_196 hw (Nat.le_trans (by decide : 5 ≤ 8 - 1) (Nat.sub_le_sub_right hF 1)) (ml_sub wm_196 (Nat.le_trans (by decide : 132 ≤ 177 - 22) (Nat.sub_le_sub_right hLo 22))) (wp_bind h) (fun r20 h => rs_back0 ?_))
        refine rs_goto (tg := 95) wi_80_85 ⟨by decide, by decide⟩ ?_
        exact hj95 _ h _ l2
  ·
    have h := wp_pos h q
    refine rs_pure wi_80_10 rfl ?_
    refine rs_topi (v := (-1)) (by decide) ?_
    exact rs_iret wi_80_11 wr_80 rfl (hQ ((-1), c) h)
theorem tf_172_6 : fo true 172 12 6 (.ref 146) := ⟨_, rfl, rfl, by decide, by decide⟩
theorem wsb_42 : (rt_sb 42).isSome = true := by decide +kernel
theorem wc_336_158 : rx_ct (rt_P sc fm) 336 158 = some (0, 323, 2) := (by decide +kernel : rt_ct 336 158 = some (0, 323, 2))
theorem wc_336_264 : rx_ct (rt_P sc fm) 336 264 = some (0, 334, 2) := (by decide +kernel : rt_ct 336 264 = some (0, 334, 2))
theorem wc_336_283 : rx_ct (rt_P sc fm) 336 283 = some (11, 351, 1) := (by decide +kernel : rt_ct 336 283 = some (11, 351, 1))
theorem wc_336_287 : rx_ct (rt_P sc fm) 336 287 = some (0, 169, 3) := (by decide +kernel : rt_ct 336 287 = some (0, 169, 3))
theorem wc_336_291 : rx_ct (rt_P sc fm) 336 291 = some (0, 190, 2) := (by decide +kernel : rt_ct 336 291 = some (0, 190, 2))
theorem wc_336_297 : rx_ct (rt_P sc fm) 336 297 = some (0, 168, 1) := (by decide +kernel : rt_ct 336 297 = some (0, 168, 1))
theorem wc_336_51 : rx_ct (rt_P sc fm) 336 51 = some (0, 320, 1) := (by decide +kernel : rt_ct 336 51 = some (0, 320, 1))
theorem wc_336_54 : rx_ct (rt_P sc fm) 336 54 = some (0, 322, 1) := (by decide +kernel : rt_ct 336 54 = some (0, 322, 1))
theorem wf_336_23 : rx_ft (rt_P sc fm) 336 23 = some (12, 4) := (by decide +kernel : rt_ft 336 23 = some (12, 4))
theorem wf_336_278 : rx_ft (rt_P sc fm) 336 278 = some (2, 13) := (by decide +kernel : rt_ft 336 278 = some (2, 13))
theorem wf_336_31 : rx_ft (rt_P sc fm) 336 31 = some (12, 6) := (by decide +kernel : rt_ft 336 31 = some (12, 6))
theorem wi_336_0 : ri (rt_P sc fm) 336 0 (.iconst 0) (1) := ri_of (by decide +kernel) rfl
theorem wi_336_1 : ri (rt_P sc fm) 336 1 (.istore_n 3) (2) := ri_of (by decide +kernel) rfl
theorem wi_336_101 : ri (rt_P sc fm) 336 101 (.return_) (102) := ri_of (by decide +kernel) rfl
theorem wi_336_12 : ri (rt_P sc fm) 336 12 (.getfield 278) (15) := ri_of (by decide +kernel) rfl
theorem wi_336_15 : ri (rt_P sc fm) 336 15 (.iload_n 2) (16) := ri_of (by decide +kernel) rfl
theorem wi_336_16 : ri (rt_P sc fm) 336 16 (.iaload) (17) := ri_of (by decide +kernel) rfl
theorem wi_336_17 : ri (rt_P sc fm) 336 17 (.iload_n 3) (18) := ri_of (by decide +kernel) rfl
theorem wi_336_18 : ri (rt_P sc fm) 336 18 (.ishr) (19) := ri_of (by decide +kernel) rfl
theorem wi_336_19 : ri (rt_P sc fm) 336 19 (.iconst 1) (20) := ri_of (by decide +kernel) rfl
theorem wi_336_2 : ri (rt_P sc fm) 336 2 (.iload_n 3) (3) := ri_of (by decide +kernel) rfl
theorem wi_336_20 : ri (rt_P sc fm) 336 20 (.iand) (21) := ri_of (by decide +kernel) rfl
theorem wi_336_21 : ri (rt_P sc fm) 336 21 (.ifCond .eq 74) (24) := ri_of (by decide +kernel) rfl
theorem wi_336_24 : ri (rt_P sc fm) 336 24 (.iload_n 3) (25) := ri_of (by decide +kernel) rfl
theorem wi_336_25 : ri (rt_P sc fm) 336 25 (.iconst 4) (26) := ri_of (by decide +kernel) rfl
theorem wi_336_26 : ri (rt_P sc fm) 336 26 (.idiv) (27) := ri_of (by decide +kernel) rfl
theorem wi_336_27 : ri (rt_P sc fm) 336 27 (.istore 4) (29) := ri_of (by decide +kernel) rfl
theorem wi_336_29 : ri (rt_P sc fm) 336 29 (.iload_n 3) (30) := ri_of (by decide +kernel) rfl
theorem wi_336_3 : ri (rt_P sc fm) 336 3 (.bipush 16) (5) := ri_of (by decide +kernel) rfl
theorem wi_336_30 : ri (rt_P sc fm) 336 30 (.iconst 4) (31) := ri_of (by decide +kernel) rfl
theorem wi_336_31 : ri (rt_P sc fm) 336 31 (.irem) (32) := ri_of (by decide +kernel) rfl
theorem wi_336_32 : ri (rt_P sc fm) 336 32 (.istore 5) (34) := ri_of (by decide +kernel) rfl
theorem wi_336_34 : ri (rt_P sc fm) 336 34 (.aload_n 0) (35) := ri_of (by decide +kernel) rfl
theorem wi_336_35 : ri (rt_P sc fm) 336 35 (.ldc_w 281) (38) := ri_of (by decide +kernel) rfl
theorem wi_336_38 : ri (rt_P sc fm) 336 38 (.invokestatic 283) (41) := ri_of (by decide +kernel) rfl
theorem wi_336_41 : ri (rt_P sc fm) 336 41 (.invokevirtual 51) (44) := ri_of (by decide +kernel) rfl
theorem wi_336_44 : ri (rt_P sc fm) 336 44 (.aload_n 0) (45) := ri_of (by decide +kernel) rfl
theorem wi_336_45 : ri (rt_P sc fm) 336 45 (.iload 4) (47) := ri_of (by decide +kernel) rfl
theorem wi_336_47 : ri (rt_P sc fm) 336 47 (.aload_n 0) (48) := ri_of (by decide +kernel) rfl
theorem wi_336_48 : ri (rt_P sc fm) 336 48 (.getfield 31) (51) := ri_of (by decide +kernel) rfl
theorem wi_336_5 : ri (rt_P sc fm) 336 5 (.if_icmp .ge 96) (8) := ri_of (by decide +kernel) rfl
theorem wi_336_51 : ri (rt_P sc fm) 336 51 (.aload_n 0) (52) := ri_of (by decide +kernel) rfl
theorem wi_336_52 : ri (rt_P sc fm) 336 52 (.getfield 23) (55) := ri_of (by decide +kernel) rfl
theorem wi_336_55 : ri (rt_P sc fm) 336 55 (.iload_n 1) (56) := ri_of (by decide +kernel) rfl
theorem wi_336_56 : ri (rt_P sc fm) 336 56 (.iload_n 2) (57) := ri_of (by decide +kernel) rfl
theorem wi_336_57 : ri (rt_P sc fm) 336 57 (.iload 5) (59) := ri_of (by decide +kernel) rfl
theorem wi_336_59 : ri (rt_P sc fm) 336 59 (.invokevirtual 287) (62) := ri_of (by decide +kernel) rfl
theorem wi_336_62 : ri (rt_P sc fm) 336 62 (.iload 4) (64) := ri_of (by decide +kernel) rfl
theorem wi_336_64 : ri (rt_P sc fm) 336 64 (.invokevirtual 291) (67) := ri_of (by decide +kernel) rfl
theorem wi_336_67 : ri (rt_P sc fm) 336 67 (.invokevirtual 264) (70) := ri_of (by decide +kernel) rfl
theorem wi_336_70 : ri (rt_P sc fm) 336 70 (.aload_n 0) (71) := ri_of (by decide +kernel) rfl
theorem wi_336_71 : ri (rt_P sc fm) 336 71 (.iconst 1) (72) := ri_of (by decide +kernel) rfl
theorem wi_336_72 : ri (rt_P sc fm) 336 72 (.aload_n 0) (73) := ri_of (by decide +kernel) rfl
theorem wi_336_73 : ri (rt_P sc fm) 336 73 (.getfield 23) (76) := ri_of (by decide +kernel) rfl
theorem wi_336_76 : ri (rt_P sc fm) 336 76 (.iload_n 2) (77) := ri_of (by decide +kernel) rfl
theorem wi_336_77 : ri (rt_P sc fm) 336 77 (.invokevirtual 297) (80) := ri_of (by decide +kernel) rfl
theorem wi_336_8 : ri (rt_P sc fm) 336 8 (.aload_n 0) (9) := ri_of (by decide +kernel) rfl
theorem wi_336_80 : ri (rt_P sc fm) 336 80 (.iconst 1) (81) := ri_of (by decide +kernel) rfl
theorem wi_336_81 : ri (rt_P sc fm) 336 81 (.isub) (82) := ri_of (by decide +kernel) rfl
theorem wi_336_82 : ri (rt_P sc fm) 336 82 (.iload 5) (84) := ri_of (by decide +kernel) rfl
theorem wi_336_84 : ri (rt_P sc fm) 336 84 (.isub) (85) := ri_of (by decide +kernel) rfl
theorem wi_336_85 : ri (rt_P sc fm) 336 85 (.i2l) (86) := ri_of (by decide +kernel) rfl
theorem wi_336_86 : ri (rt_P sc fm) 336 86 (.invokevirtual 158) (89) := ri_of (by decide +kernel) rfl
theorem wi_336_89 : ri (rt_P sc fm) 336 89 (.aload_n 0) (90) := ri_of (by decide +kernel) rfl
theorem wi_336_9 : ri (rt_P sc fm) 336 9 (.getfield 23) (12) := ri_of (by decide +kernel) rfl
theorem wi_336_90 : ri (rt_P sc fm) 336 90 (.bipush 59) (92) := ri_of (by decide +kernel) rfl
theorem wi_336_92 : ri (rt_P sc fm) 336 92 (.invokevirtual 54) (95) := ri_of (by decide +kernel) rfl
theorem wi_336_95 : ri (rt_P sc fm) 336 95 (.iinc 3 1) (98) := ri_of (by decide +kernel) rfl
theorem wi_336_98 : ri (rt_P sc fm) 336 98 (.goto (-96)) (101) := ri_of (by decide +kernel) rfl
theorem wk_336_281 : rx_kt (rt_P sc fm) 336 281 = some (.ref (rx_K 42)) := (by decide +kernel : rt_kt 336 281 = some (.ref (rx_K 42)))
theorem wr_336 : rx_rt (rt_P sc fm) 336 = none := (by decide +kernel : rt_rt 336 = none)
/-- MarkHouse$Teller.writeChecks(II)V -/
def d_336 (n : Nat) (a1 : Int32) (a2 : Int32) (c : cS) : Option (cS) :=
  Option.bind (whl (R := (cS)) (fun s2 : Int32 × cS =>
    if 16 ≤ s2.1 then
      some (.inr s2.2)
    else
      if ib a2 1024 then
      jn (fun p4 : cS =>
        lt (s2.1 + 1 : Int32) (fun v6 =>
        some (.inl (v6, p4))))
      (fun j95 =>
      if (((s2.2.1 126 (ix a2)) >>> (s2.1 &&& 31)) &&& 1) = 0 then
        j95 s2.2
      else
        lt ((s2.1 / 4) : Int32) (fun v9 =>
        lt ((s2.1 - s2.1 / 4 * 4) : Int32) (fun v12 =>
        Option.bind (d_351 n 42) (fun v14 =>
        Option.bind (d_320 n v14 s2.2) (fun r15 =>
        Option.bind (d_169 n a1 a2 v12 r15) (fun v16 =>
        Option.bind (d_190 n v16 v9 r15) (fun v17 =>
        Option.bind (d_334 n v9 v17 r15) (fun r18 =>
        Option.bind (d_168 n a2 r18) (fun v19 =>
        Option.bind (d_323 n 1 ((((v19 - 1) - v12) : Int32).toInt64) r18) (fun r20 =>
        Option.bind (d_322 n 59 r20) (fun r21 =>
        j95 r21)))))))))))
      else none) n (0, c))
  (fun x22 : cS =>
    some x22)
set_option maxRecDepth 100000 in
set_option maxHeartbeats 4000000 in
theorem sp_336 {F Lo n : Nat} {a1 : Int32} {a2 : Int32} {c y : cS} {w : cW} {K : cS → Prop} {Q : ((Option Value) ⊕ String) → List va_E → Prop} (hw : rOK fm w) (hF : 5 ≤ F) (hLo : 108 ≤ Lo)  (h : wp (d_336 n a1 a2 c) K) (hQ : ∀ r, K r → Q (.inl none) (hq true r y w)) : rs (rt_P sc fm) 336 F Lo 0 [(0, .ref 172), (1, .int a1), (2, .int a2)] [] (hq true c y w) Q := by
  unfold d_336 at h
  obtain ⟨lv, elv⟩ : ∃ lv : rx_L, lv = [(0, .ref 172), (1, .int a1), (2, .int a2)] := ⟨_, rfl⟩
  rw [← elv]
  have l0 : rx_ld lv 0 = some (.ref 172) := by rw [elv]; rfl
  have l1 : rx_ld lv 1 = some (.int a1) := by rw [elv]; rfl
  have l2 : rx_ld lv 2 = some (.int a2) := by rw [elv]; rfl
  refine rs_pure wi_336_0 rfl ?_
  refine rs_topi (v := 0) (by decide) ?_
  refine dl_istn wi_336_1 rfl (fun lv l3 t1 => ?_)
  have l0 := t1 _ _ (by decide) (Or.inl rfl) l0
  have l1 := t1 _ _ (by decide) (Or.inl rfl) l1
  have l2 := t1 _ _ (by decide) (Or.inl rfl) l2
  refine whl_ex (A := fun s2 : Int32 × cS => ∀ lv, rx_ld lv 0 = some (.ref 172) → rx_ld lv 1 = some (.int a1) → rx_ld lv 2 = some (.int a2) → rx_ld lv 3 = some (.int s2.1) → rs (rt_P sc fm) 336 F Lo 2 lv [] (hq true s2.2 y w) Q) (B := (fun x22 : cS => ∀ lv, rs (rt_P sc fm) 336 F Lo 101 lv [] (hq true x22 y w) Q)) ?_ ?_ _ _ (wp_bind h) _ l0 l1 l2 l3
  · intro s2 h lv l0 l1 l2 l3
    refine rs_ildn wi_336_2 l3 ?_
    refine rs_pure wi_336_3 rfl ?_
    refine rs_topi (v := 16) (by decide) ?_
    refine rs_icge (tg := 101) wi_336_5 ⟨by decide, by decide⟩ (fun q => ?_) (fun q => ?_)
    ·
      have h := wp_pos h q
      exact h _
    ·
      have h := wp_neg h q
      refine rs_aldn wi_336_8 l0 ?_
      refine dq_gr wi_336_9 wf_336_23 tf_172_4 ?_
      refine dq_gr wi_336_12 wf_336_278 tf_114_13 ?_
      refine rs_ildn wi_336_15 l2 ?_
      obtain ⟨g3, h⟩ := wp_gd h
      refine dq_iald wi_336_16 t_126 g3 ?_
      refine rs_ildn wi_336_17 l3 ?_
      refine rs_pure wi_336_18 rfl ?_
      refine rs_pure wi_336_19 rfl ?_
      refine rs_topi (v := 1) (by decide) ?_
      refine rs_pure wi_336_20 rfl ?_
      refine wp_jn (B := fun p4 : cS => ∀ lv, rx_ld lv 0 = some (.ref 172) → rx_ld lv 1 = some (.int a1) → rx_ld lv 2 = some (.int a2) → rx_ld lv 3 = some (.int s2.1) → rs (rt_P sc fm) 336 F Lo 95 lv [] (hq true p4 y w) Q) h (fun p4 h lv l0 l1 l2 l3 => ?_) (fun j95 hj95 h => ?_)
      ·
        obtain ⟨v6, e7, h⟩ := wp_lt h
        refine dl_inc wi_336_95 l3 rfl e7 (fun lv l3 t5 => ?_)
        have l0 := t5 _ _ (by decide) (Or.inl rfl) l0
        have l1 := t5 _ _ (by decide) (Or.inl rfl) l1
        have l2 := t5 _ _ (by decide) (Or.inl rfl) l2
        refine rs_goto (tg := 2) wi_336_98 ⟨by decide, by decide⟩ ?_
        exact h _ l0 l1 l2 l3
      refine rs_ifeq (tg := 95) wi_336_21 ⟨by decide, by decide⟩ (fun q => ?_) (fun q => ?_)
      ·
        have h := wp_pos h q
        exact hj95 _ h _ l0 l1 l2 l3
      ·
        have h := wp_neg h q
        refine rs_ildn wi_336_24 l3 ?_
        refine rs_pure wi_336_25 rfl ?_
        refine rs_topi (v := 4) (by decide) ?_
        refine dl_idiv wi_336_26 (by decide) ?_
        obtain ⟨v9, e10, h⟩ := wp_lt h
        refine rs_topi e10 ?_
        refine dl_ist wi_336_27 rfl (fun lv l4 t8 => ?_)
        have l0 := t8 _ _ (by decide) (Or.inl rfl) l0
        have l1 := t8 _ _ (by decide) (Or.inl rfl) l1
        have l2 := t8 _ _ (by decide) (Or.inl rfl) l2
        have l3 := t8 _ _ (by decide) (Or.inl rfl) l3
        refine rs_ildn wi_336_29 l3 ?_
        refine rs_pure wi_336_30 rfl ?_
        refine rs_topi (v := 4) (by decide) ?_
        refine dl_irem wi_336_31 (by decide) ?_
        obtain ⟨v12, e13, h⟩ := wp_lt h
        refine rs_topi e13 ?_
        refine dl_ist wi_336_32 rfl (fun lv l5 t11 => ?_)
        have l0 := t11 _ _ (by decide) (Or.inl rfl) l0
        have l1 := t11 _ _ (by decide) (Or.inl rfl) l1
        have l2 := t11 _ _ (by decide) (Or.inl rfl) l2
        have l3 := t11 _ _ (by decide) (Or.inl rfl) l3
        have l4 := t11 _ _ (by decide) (Or.inl rfl) l4
        refine rs_aldn wi_336_34 l0 ?_
        refine rs_ldcwS wi_336_35 wk_336_281 ?_
        refine rs_SN wi_336_38 wc_336_283 rfl (Nat.le_trans (by decide) hF) (ml_le wm_351 (Nat.le_trans (by decide) hLo)) rfl (sp_351 hq_len hw.2.2.2 (Nat.le_trans (by decide : 4 ≤ 5 - 1) (Nat.sub_le_sub_right hF 1)) (ml_sub wm_351 (Nat.le_trans (by decide : 85 ≤ 108 - 23) (Nat.sub_le_sub_right hLo 23))) wsb_42 (wp_bind h) (fun v14 h => rs_back1 ?_))
        refine rs_V wi_336_41 wc_336_51 rfl (dq_isa tf_172_0 wa_12_320) (Nat.le_trans (by decide) hF) (ml_le wm_320 (Nat.le_trans (by decide) hLo)) rfl (sp_320 hw (Nat.le_trans (by decide : 2 ≤ 5 - 1) (Nat.sub_le_sub_right hF 1)) (ml_sub wm_320 (Nat.le_trans (by decide : 45 ≤ 108 - 22) (Nat.sub_le_sub_right hLo 22))) (wp_bind h) (fun r15 h => rs_back0 ?_))
        refine rs_aldn wi_336_44 l0 ?_
        refine rs_ild wi_336_45 l4 ?_
        refine rs_aldn wi_336_47 l0 ?_
        refine dq_gr wi_336_48 wf_336_31 tf_172_6 ?_
        refine rs_aldn wi_336_51 l0 ?_
        refine dq_gr wi_336_52 wf_336_23 tf_172_4 ?_
        refine rs_ildn wi_336_55 l1 ?_
        refine rs_ildn wi_336_56 l2 ?_
        refine rs_ild wi_336_57 l5 ?_
        refine rs_V wi_336_59 wc_336_287 rfl (dq_isa tf_114_0 wa_2_169) (Nat.le_trans (by decide) hF) (ml_le wm_169 (Nat.le_trans (by decide) hLo)) rfl (sp_169 hw (Nat.le_trans (by decide : 1 ≤ 5 - 1) (Nat.sub_le_sub_right hF 1)) (ml_sub wm_169 (Nat.le_trans (by decide : 21 ≤ 108 - 23) (Nat.sub_le_sub_right hLo 23))) (wp_bind h) (fun v16 h => rs_back1 ?_))
        refine rs_ild wi_336_62 l4 ?_
        refine rs_V wi_336_64 wc_336_291 rfl (dq_isa tf_146_0 wa_4_190) (Nat.le_trans (by decide) hF) (ml_le wm_190 (Nat.le_trans (by decide) hLo)) rfl (sp_190 hw (Nat.le_trans (by decide : 0 ≤ 5 - 1) (Nat.sub_le_sub_right hF 1)) (ml_sub wm_190 (Nat.le_trans (by decide : 0 ≤ 108 - 23) (Nat.sub_le_sub_right hLo 23))) (wp_bind h) (fun v17 h => rs_back1 ?_))
        refine rs_V wi_336_67 wc_336_264 rfl (dq_isa tf_172_0 wa_12_334) (Nat.le_trans (by decide) hF) (ml_le wm_334 (Nat.le_trans (by decide) hLo)) rfl (sp_334 hw (Nat.le_trans (by decide : 3 ≤ 5 - 1) (Nat.sub_le_sub_right hF 1)) (ml_sub wm_334 (Nat.le_trans (by decide : 67 ≤ 108 - 22) (Nat.sub_le_sub_right hLo 22))) (wp_bind h) (fun r18 h => rs_back0 ?_))
        refine rs_aldn wi_336_70 l0 ?_
        refine rs_pure wi_336_71 rfl ?_
        refine rs_topi (v := 1) (by decide) ?_
        refine rs_aldn wi_336_72 l0 ?_
        refine dq_gr wi_336_73 wf_336_23 tf_172_4 ?_
        refine rs_ildn wi_336_76 l2 ?_
        refine rs_V wi_336_77 wc_336_297 rfl (dq_isa tf_114_0 wa_2_168) (Nat.le_trans (by decide) hF) (ml_le wm_168 (Nat.le_trans (by decide) hLo)) rfl (sp_168 hw (Nat.le_trans (by decide : 0 ≤ 5 - 1) (Nat.sub_le_sub_right hF 1)) (ml_sub wm_168 (Nat.le_trans (by decide : 0 ≤ 108 - 21) (Nat.sub_le_sub_right hLo 21))) (wp_bind h) (fun v19 h => rs_back1 ?_))
        refine rs_pure wi_336_80 rfl ?_
        refine rs_topi (v := 1) (by decide) ?_
        refine rs_pure wi_336_81 rfl ?_
        refine rs_ild wi_336_82 l5 ?_
        refine rs_pure wi_336_84 rfl ?_
        refine rs_pure wi_336_85 rfl ?_
        refine rs_V wi_336_86 wc_336_158 rfl (dq_isa tf_172_0 wa_12_323) (Nat.le_trans (by decide) hF) (ml_le wm_323 (Nat.le_trans (by decide) hLo)) rfl (sp_323 hw (Nat.le_trans (by decide : 2 ≤ 5 - 1) (Nat.sub_le_sub_right hF 1)) (ml_sub wm_323 (Nat.le_trans (by decide : 47 ≤ 108 - 23) (Nat.sub_le_sub_right hLo 23))) (wp_bind h) (fun r20 h => rs_back0 ?_))
        refine rs_aldn wi_336_89 l0 ?_
        refine rs_pure wi_336_90 rfl ?_
        refine rs_topi (v := 59) (by decide) ?_
        refine rs_V wi_336_92 wc_336_54 rfl (dq_isa tf_172_0 wa_12_322) (Nat.le_trans (by decide) hF) (ml_le wm_322 (Nat.le_trans (by decide) hLo)) rfl (sp_322 hw (Nat.le_trans (by decide : 1 ≤ 5 - 1) (Nat.sub_le_sub_right hF 1)) (ml_sub wm_322 (Nat.le_trans (by decide : 21 ≤ 108 - 21) (Nat.sub_le_sub_right hLo 21))) (wp_bind h) (fun r21 h => rs_back0 ?_))
        exact hj95 _ h _ l0 l1 l2 l3
  ·
    intro x22 h lv
    exact rs_vret wi_336_101 wr_336 (hQ x22 h)
theorem wi_482_0 : ri (rt_P sc fm) 482 0 (.iload_n 0) (1) := ri_of (by decide +kernel) rfl
theorem wi_482_1 : ri (rt_P sc fm) 482 1 (.iload_n 0) (2) := ri_of (by decide +kernel) rfl
theorem wi_482_10 : ri (rt_P sc fm) 482 10 (.iload_n 0) (11) := ri_of (by decide +kernel) rfl
theorem wi_482_11 : ri (rt_P sc fm) 482 11 (.ldc_w 266) (14) := ri_of (by decide +kernel) rfl
theorem wi_482_14 : ri (rt_P sc fm) 482 14 (.iand) (15) := ri_of (by decide +kernel) rfl
theorem wi_482_15 : ri (rt_P sc fm) 482 15 (.iload_n 0) (16) := ri_of (by decide +kernel) rfl
theorem wi_482_16 : ri (rt_P sc fm) 482 16 (.iconst 2) (17) := ri_of (by decide +kernel) rfl
theorem wi_482_17 : ri (rt_P sc fm) 482 17 (.iushr) (18) := ri_of (by decide +kernel) rfl
theorem wi_482_18 : ri (rt_P sc fm) 482 18 (.ldc_w 266) (21) := ri_of (by decide +kernel) rfl
theorem wi_482_2 : ri (rt_P sc fm) 482 2 (.iconst 1) (3) := ri_of (by decide +kernel) rfl
theorem wi_482_21 : ri (rt_P sc fm) 482 21 (.iand) (22) := ri_of (by decide +kernel) rfl
theorem wi_482_22 : ri (rt_P sc fm) 482 22 (.iadd) (23) := ri_of (by decide +kernel) rfl
theorem wi_482_23 : ri (rt_P sc fm) 482 23 (.istore_n 0) (24) := ri_of (by decide +kernel) rfl
theorem wi_482_24 : ri (rt_P sc fm) 482 24 (.iload_n 0) (25) := ri_of (by decide +kernel) rfl
theorem wi_482_25 : ri (rt_P sc fm) 482 25 (.iload_n 0) (26) := ri_of (by decide +kernel) rfl
theorem wi_482_26 : ri (rt_P sc fm) 482 26 (.iconst 4) (27) := ri_of (by decide +kernel) rfl
theorem wi_482_27 : ri (rt_P sc fm) 482 27 (.iushr) (28) := ri_of (by decide +kernel) rfl
theorem wi_482_28 : ri (rt_P sc fm) 482 28 (.iadd) (29) := ri_of (by decide +kernel) rfl
theorem wi_482_29 : ri (rt_P sc fm) 482 29 (.ldc_w 267) (32) := ri_of (by decide +kernel) rfl
theorem wi_482_3 : ri (rt_P sc fm) 482 3 (.iushr) (4) := ri_of (by decide +kernel) rfl
theorem wi_482_32 : ri (rt_P sc fm) 482 32 (.iand) (33) := ri_of (by decide +kernel) rfl
theorem wi_482_33 : ri (rt_P sc fm) 482 33 (.istore_n 0) (34) := ri_of (by decide +kernel) rfl
theorem wi_482_34 : ri (rt_P sc fm) 482 34 (.iload_n 0) (35) := ri_of (by decide +kernel) rfl
theorem wi_482_35 : ri (rt_P sc fm) 482 35 (.iload_n 0) (36) := ri_of (by decide +kernel) rfl
theorem wi_482_36 : ri (rt_P sc fm) 482 36 (.bipush 8) (38) := ri_of (by decide +kernel) rfl
theorem wi_482_38 : ri (rt_P sc fm) 482 38 (.iushr) (39) := ri_of (by decide +kernel) rfl
theorem wi_482_39 : ri (rt_P sc fm) 482 39 (.iadd) (40) := ri_of (by decide +kernel) rfl
theorem wi_482_4 : ri (rt_P sc fm) 482 4 (.ldc_w 265) (7) := ri_of (by decide +kernel) rfl
theorem wi_482_40 : ri (rt_P sc fm) 482 40 (.istore_n 0) (41) := ri_of (by decide +kernel) rfl
theorem wi_482_41 : ri (rt_P sc fm) 482 41 (.iload_n 0) (42) := ri_of (by decide +kernel) rfl
theorem wi_482_42 : ri (rt_P sc fm) 482 42 (.iload_n 0) (43) := ri_of (by decide +kernel) rfl
theorem wi_482_43 : ri (rt_P sc fm) 482 43 (.bipush 16) (45) := ri_of (by decide +kernel) rfl
theorem wi_482_45 : ri (rt_P sc fm) 482 45 (.iushr) (46) := ri_of (by decide +kernel) rfl
theorem wi_482_46 : ri (rt_P sc fm) 482 46 (.iadd) (47) := ri_of (by decide +kernel) rfl
theorem wi_482_47 : ri (rt_P sc fm) 482 47 (.istore_n 0) (48) := ri_of (by decide +kernel) rfl
theorem wi_482_48 : ri (rt_P sc fm) 482 48 (.iload_n 0) (49) := ri_of (by decide +kernel) rfl
theorem wi_482_49 : ri (rt_P sc fm) 482 49 (.bipush 63) (51) := ri_of (by decide +kernel) rfl
theorem wi_482_51 : ri (rt_P sc fm) 482 51 (.iand) (52) := ri_of (by decide +kernel) rfl
theorem wi_482_52 : ri (rt_P sc fm) 482 52 (.ireturn) (53) := ri_of (by decide +kernel) rfl
theorem wi_482_7 : ri (rt_P sc fm) 482 7 (.iand) (8) := ri_of (by decide +kernel) rfl
theorem wi_482_8 : ri (rt_P sc fm) 482 8 (.isub) (9) := ri_of (by decide +kernel) rfl
theorem wi_482_9 : ri (rt_P sc fm) 482 9 (.istore_n 0) (10) := ri_of (by decide +kernel) rfl
theorem wk_482_265 : rx_kt (rt_P sc fm) 482 265 = some (.int (1431655765)) := (by decide +kernel : rt_kt 482 265 = some (.int (1431655765)))
theorem wk_482_266 : rx_kt (rt_P sc fm) 482 266 = some (.int (858993459)) := (by decide +kernel : rt_kt 482 266 = some (.int (858993459)))
theorem wk_482_267 : rx_kt (rt_P sc fm) 482 267 = some (.int (252645135)) := (by decide +kernel : rt_kt 482 267 = some (.int (252645135)))
theorem wr_482 : rx_rt (rt_P sc fm) 482 = (some FieldType.int) := (by decide +kernel : rt_rt 482 = (some FieldType.int))
/-- java/lang/Integer.bitCount(I)I -/
def d_482 (n : Nat) (a0 : Int32) : Option (Int32) :=
  lt ((a0 - (((a0 : Int32).toUInt32 >>> ((1 : Int32).toUInt32 &&& Int32.toUInt32 31)).toInt32 &&& 1431655765)) : Int32) (fun v2 =>
  lt (((v2 &&& 858993459) + (((v2 : Int32).toUInt32 >>> ((2 : Int32).toUInt32 &&& Int32.toUInt32 31)).toInt32 &&& 858993459)) : Int32) (fun v5 =>
  lt (((v5 + ((v5 : Int32).toUInt32 >>> ((4 : Int32).toUInt32 &&& Int32.toUInt32 31)).toInt32) &&& 252645135) : Int32) (fun v8 =>
  lt ((v8 + ((v8 : Int32).toUInt32 >>> ((8 : Int32).toUInt32 &&& Int32.toUInt32 31)).toInt32) : Int32) (fun v11 =>
  lt ((v11 + ((v11 : Int32).toUInt32 >>> ((16 : Int32).toUInt32 &&& Int32.toUInt32 31)).toInt32) : Int32) (fun v14 =>
  some (v14 &&& 63))))))
set_option maxRecDepth 100000 in
set_option maxHeartbeats 4000000 in
theorem sp_482 {F Lo n : Nat} {a0 : Int32} {L : List va_E} {K : Int32 → Prop} {Q : ((Option Value) ⊕ String) → List va_E → Prop} (hF : 0 ≤ F) (hLo : 0 ≤ Lo)  (h : wp (d_482 n a0) K) (hQ : ∀ r, K r → Q (.inl (some (.int r))) L) : rs (rt_P sc fm) 482 F Lo 0 [(0, .int a0)] [] L Q := by
  unfold d_482 at h
  obtain ⟨lv, elv⟩ : ∃ lv : rx_L, lv = [(0, .int a0)] := ⟨_, rfl⟩
  rw [← elv]
  have l0 : rx_ld lv 0 = some (.int a0) := by rw [elv]; rfl
  refine rs_ildn wi_482_0 l0 ?_
  refine rs_ildn wi_482_1 l0 ?_
  refine rs_pure wi_482_2 rfl ?_
  refine rs_topi (v := 1) (by decide) ?_
  refine rs_pure wi_482_3 rfl ?_
  refine rs_ldcw wi_482_4 wk_482_265 ?_
  refine rs_pure wi_482_7 rfl ?_
  refine rs_pure wi_482_8 rfl ?_
  obtain ⟨v2, e3, h⟩ := wp_lt h
  refine rs_topi e3 ?_
  refine dl_istn wi_482_9 rfl (fun lv l0 t1 => ?_)
  refine rs_ildn wi_482_10 l0 ?_
  refine rs_ldcw wi_482_11 wk_482_266 ?_
  refine rs_pure wi_482_14 rfl ?_
  refine rs_ildn wi_482_15 l0 ?_
  refine rs_pure wi_482_16 rfl ?_
  refine rs_topi (v := 2) (by decide) ?_
  refine rs_pure wi_482_17 rfl ?_
  refine rs_ldcw wi_482_18 wk_482_266 ?_
  refine rs_pure wi_482_21 rfl ?_
  refine rs_pure wi_482_22 rfl ?_
  obtain ⟨v5, e6, h⟩ := wp_lt h
  refine rs_topi e6 ?_
  refine dl_istn wi_482_23 rfl (fun lv l0 t4 => ?_)
  refine rs_ildn wi_482_24 l0 ?_
  refine rs_ildn wi_482_25 l0 ?_
  refine rs_pure wi_482_26 rfl ?_
  refine rs_topi (v := 4) (by decide) ?_
  refine rs_pure wi_482_27 rfl ?_
  refine rs_pure wi_482_28 rfl ?_
  refine rs_ldcw wi_482_29 wk_482_267 ?_
  refine rs_pure wi_482_32 rfl ?_
  obtain ⟨v8, e9, h⟩ := wp_lt h
  refine rs_topi e9 ?_
  refine dl_istn wi_482_33 rfl (fun lv l0 t7 => ?_)
  refine rs_ildn wi_482_34 l0 ?_
  refine rs_ildn wi_482_35 l0 ?_
  refine rs_pure wi_482_36 rfl ?_
  refine rs_topi (v := 8) (by decide) ?_
  refine rs_pure wi_482_38 rfl ?_
  refine rs_pure wi_482_39 rfl ?_
  obtain ⟨v11, e12, h⟩ := wp_lt h
  refine rs_topi e12 ?_
  refine dl_istn wi_482_40 rfl (fun lv l0 t10 => ?_)
  refine rs_ildn wi_482_41 l0 ?_
  refine rs_ildn wi_482_42 l0 ?_
  refine rs_pure wi_482_43 rfl ?_
  refine rs_topi (v := 16) (by decide) ?_
  refine rs_pure wi_482_45 rfl ?_
  refine rs_pure wi_482_46 rfl ?_
  obtain ⟨v14, e15, h⟩ := wp_lt h
  refine rs_topi e15 ?_
  refine dl_istn wi_482_47 rfl (fun lv l0 t13 => ?_)
  refine rs_ildn wi_482_48 l0 ?_
  refine rs_pure wi_482_49 rfl ?_
  refine rs_topi (v := 63) (by decide) ?_
  refine rs_pure wi_482_51 rfl ?_
  exact rs_iret wi_482_52 wr_482 rfl (hQ (v14 &&& 63) h)
theorem wc_337_305 : rx_ct (rt_P sc fm) 337 305 = some (1, 482, 1) := (by decide +kernel : rt_ct 337 305 = some (1, 482, 1))
theorem wcn_337_300 : rx_ct (rt_P sc fm) 337 300 = none := (by decide +kernel : rt_ct 337 300 = none)
theorem wf_337_124 : rx_ft (rt_P sc fm) 337 124 = some (2, 5) := (by decide +kernel : rt_ft 337 124 = some (2, 5))
theorem wf_337_23 : rx_ft (rt_P sc fm) 337 23 = some (12, 4) := (by decide +kernel : rt_ft 337 23 = some (12, 4))
theorem wf_337_278 : rx_ft (rt_P sc fm) 337 278 = some (2, 13) := (by decide +kernel : rt_ft 337 278 = some (2, 13))
theorem wi_337_0 : ri (rt_P sc fm) 337 0 (.iload_n 2) (1) := ri_of (by decide +kernel) rfl
theorem wi_337_1 : ri (rt_P sc fm) 337 1 (.iconst 0) (2) := ri_of (by decide +kernel) rfl
theorem wi_337_10 : ri (rt_P sc fm) 337 10 (.iload 5) (12) := ri_of (by decide +kernel) rfl
theorem wi_337_12 : ri (rt_P sc fm) 337 12 (.iload_n 2) (13) := ri_of (by decide +kernel) rfl
theorem wi_337_13 : ri (rt_P sc fm) 337 13 (.if_icmp .ge 41) (16) := ri_of (by decide +kernel) rfl
theorem wi_337_16 : ri (rt_P sc fm) 337 16 (.iload_n 3) (17) := ri_of (by decide +kernel) rfl
theorem wi_337_17 : ri (rt_P sc fm) 337 17 (.ifCond .eq 37) (20) := ri_of (by decide +kernel) rfl
theorem wi_337_2 : ri (rt_P sc fm) 337 2 (.invokestatic 300) (5) := ri_of (by decide +kernel) rfl
theorem wi_337_20 : ri (rt_P sc fm) 337 20 (.iload 4) (22) := ri_of (by decide +kernel) rfl
theorem wi_337_22 : ri (rt_P sc fm) 337 22 (.aload_n 0) (23) := ri_of (by decide +kernel) rfl
theorem wi_337_23 : ri (rt_P sc fm) 337 23 (.getfield 23) (26) := ri_of (by decide +kernel) rfl
theorem wi_337_26 : ri (rt_P sc fm) 337 26 (.getfield 278) (29) := ri_of (by decide +kernel) rfl
theorem wi_337_29 : ri (rt_P sc fm) 337 29 (.aload_n 0) (30) := ri_of (by decide +kernel) rfl
theorem wi_337_30 : ri (rt_P sc fm) 337 30 (.getfield 23) (33) := ri_of (by decide +kernel) rfl
theorem wi_337_33 : ri (rt_P sc fm) 337 33 (.getfield 124) (36) := ri_of (by decide +kernel) rfl
theorem wi_337_36 : ri (rt_P sc fm) 337 36 (.iload_n 1) (37) := ri_of (by decide +kernel) rfl
theorem wi_337_37 : ri (rt_P sc fm) 337 37 (.iaload) (38) := ri_of (by decide +kernel) rfl
theorem wi_337_38 : ri (rt_P sc fm) 337 38 (.iload 5) (40) := ri_of (by decide +kernel) rfl
theorem wi_337_40 : ri (rt_P sc fm) 337 40 (.iadd) (41) := ri_of (by decide +kernel) rfl
theorem wi_337_41 : ri (rt_P sc fm) 337 41 (.iaload) (42) := ri_of (by decide +kernel) rfl
theorem wi_337_42 : ri (rt_P sc fm) 337 42 (.invokestatic 305) (45) := ri_of (by decide +kernel) rfl
theorem wi_337_45 : ri (rt_P sc fm) 337 45 (.iadd) (46) := ri_of (by decide +kernel) rfl
theorem wi_337_46 : ri (rt_P sc fm) 337 46 (.istore 4) (48) := ri_of (by decide +kernel) rfl
theorem wi_337_48 : ri (rt_P sc fm) 337 48 (.iinc 5 1) (51) := ri_of (by decide +kernel) rfl
theorem wi_337_5 : ri (rt_P sc fm) 337 5 (.istore 4) (7) := ri_of (by decide +kernel) rfl
theorem wi_337_51 : ri (rt_P sc fm) 337 51 (.goto (-41)) (54) := ri_of (by decide +kernel) rfl
theorem wi_337_54 : ri (rt_P sc fm) 337 54 (.iload 4) (56) := ri_of (by decide +kernel) rfl
theorem wi_337_56 : ri (rt_P sc fm) 337 56 (.ireturn) (57) := ri_of (by decide +kernel) rfl
theorem wi_337_7 : ri (rt_P sc fm) 337 7 (.iconst 0) (8) := ri_of (by decide +kernel) rfl
theorem wi_337_8 : ri (rt_P sc fm) 337 8 (.istore 5) (10) := ri_of (by decide +kernel) rfl
theorem wm_482 : rx_ml (rt_P sc fm) 482 = 1 := (by decide +kernel : rt_ml 482 = 1)
theorem wq8_337_300 : rx_qt (rt_P sc fm) 337 300 = some 8 := (by decide +kernel : rt_qt 337 300 = some 8)
theorem wr_337 : rx_rt (rt_P sc fm) 337 = (some FieldType.int) := (by decide +kernel : rt_rt 337 = (some FieldType.int))
/-- MarkHouse$Teller.writtenAhead(IIZ)I -/
def d_337 (n : Nat) (a1 : Int32) (a2 : Int32) (a3 : Int32) (c : cS) : Option (Int32) :=
  lt ((if a2 < 0 then 0 else a2) : Int32) (fun v2 =>
  Option.bind (whl (R := (Int32)) (fun s5 : Int32 × Int32 =>
    if a2 ≤ s5.2 then
      some (.inr s5.1)
    else
      if a3 = 0 then
        some (.inr s5.1)
      else
        if ib a1 96 then
        if ib ((c.1 119 (ix a1)) + s5.2) 1024 then
        Option.bind (d_482 n (c.1 126 (ix ((c.1 119 (ix a1)) + s5.2)))) (fun v8 =>
        lt ((s5.1 + v8) : Int32) (fun v10 =>
        lt (s5.2 + 1 : Int32) (fun v13 =>
        some (.inl (v10, v13)))))
        else none
        else none) n (v2, 0))
  (fun x15 : Int32 =>
    some x15))
set_option maxRecDepth 100000 in
set_option maxHeartbeats 4000000 in
theorem sp_337 {F Lo n : Nat} {a1 : Int32} {a2 : Int32} {a3 : Int32} {c y : cS} {w : cW} {K : Int32 → Prop} {Q : ((Option Value) ⊕ String) → List va_E → Prop} (hw : rOK fm w) (hF : 1 ≤ F) (hLo : 26 ≤ Lo)  (h : wp (d_337 n a1 a2 a3 c) K) (hQ : ∀ r, K r → Q (.inl (some (.int r))) (hq true c y w)) : rs (rt_P sc fm) 337 F Lo 0 [(0, .ref 172), (1, .int a1), (2, .int a2), (3, .int a3)] [] (hq true c y w) Q := by
  unfold d_337 at h
  obtain ⟨lv, elv⟩ : ∃ lv : rx_L, lv = [(0, .ref 172), (1, .int a1), (2, .int a2), (3, .int a3)] := ⟨_, rfl⟩
  rw [← elv]
  have l0 : rx_ld lv 0 = some (.ref 172) := by rw [elv]; rfl
  have l1 : rx_ld lv 1 = some (.int a1) := by rw [elv]; rfl
  have l2 : rx_ld lv 2 = some (.int a2) := by rw [elv]; rfl
  have l3 : rx_ld lv 3 = some (.int a3) := by rw [elv]; rfl
  refine rs_ildn wi_337_0 l2 ?_
  refine rs_pure wi_337_1 rfl ?_
  refine rs_topi (v := 0) (by decide) ?_
  refine dq_mx wi_337_2 wcn_337_300 wq8_337_300 (Nat.le_trans (by decide) hF) (Nat.le_trans (by decide) hLo) ?_
  obtain ⟨v2, e3, h⟩ := wp_lt h
  refine rs_topi e3 ?_
  refine dl_ist wi_337_5 rfl (fun lv l4 t1 => ?_)
  have l0 := t1 _ _ (by decide) (Or.inl rfl) l0
  have l1 := t1 _ _ (by decide) (Or.inl rfl) l1
  have l2 := t1 _ _ (by decide) (Or.inl rfl) l2
  have l3 := t1 _ _ (by decide) (Or.inl rfl) l3
  refine rs_pure wi_337_7 rfl ?_
  refine rs_topi (v := 0) (by decide) ?_
  refine dl_ist wi_337_8 rfl (fun lv l5 t4 => ?_)
  have l0 := t4 _ _ (by decide) (Or.inl rfl) l0
  have l1 := t4 _ _ (by decide) (Or.inl rfl) l1
  have l2 := t4 _ _ (by decide) (Or.inl rfl) l2
  have l3 := t4 _ _ (by decide) (Or.inl rfl) l3
  have l4 := t4 _ _ (by decide) (Or.inl rfl) l4
  refine whl_ex (A := fun s5 : Int32 × Int32 => ∀ lv, rx_ld lv 0 = some (.ref 172) → rx_ld lv 1 = some (.int a1) → rx_ld lv 2 = some (.int a2) → rx_ld lv 3 = some (.int a3) → rx_ld lv 4 = some (.int s5.1) → rx_ld lv 5 = some (.int s5.2) → rs (rt_P sc fm) 337 F Lo 10 lv [] (hq true c y w) Q) (B := (fun x15 : Int32 => ∀ lv, rx_ld lv 4 = some (.int x15) → rs (rt_P sc fm) 337 F Lo 54 lv [] (hq true c y w) Q)) ?_ ?_ _ _ (wp_bind h) _ l0 l1 l2 l3 l4 l5
  · intro s5 h lv l0 l1 l2 l3 l4 l5
    refine rs_ild wi_337_10 l5 ?_
    refine rs_ildn wi_337_12 l2 ?_
    refine rs_icge (tg := 54) wi_337_13 ⟨by decide, by decide⟩ (fun q => ?_) (fun q => ?_)
    ·
      have h := wp_pos h q
      exact h _ l4
    ·
      have h := wp_neg h q
      refine rs_ildn wi_337_16 l3 ?_
      refine rs_ifeq (tg := 54) wi_337_17 ⟨by decide, by decide⟩ (fun q => ?_) (fun q => ?_)
      ·
        have h := wp_pos h q
        exact h _ l4
      ·
        have h := wp_neg h q
        refine rs_ild wi_337_20 l4 ?_
        refine rs_aldn wi_337_22 l0 ?_
        refine dq_gr wi_337_23 wf_337_23 tf_172_4 ?_
        refine dq_gr wi_337_26 wf_337_278 tf_114_13 ?_
        refine rs_aldn wi_337_29 l0 ?_
        refine dq_gr wi_337_30 wf_337_23 tf_172_4 ?_
        refine dq_gr wi_337_33 wf_337_124 tf_114_5 ?_
        refine rs_ildn wi_337_36 l1 ?_
        obtain ⟨g6, h⟩ := wp_gd h
        refine dq_iald wi_337_37 t_119 g6 ?_
        refine rs_ild wi_337_38 l5 ?_
        refine rs_pure wi_337_40 rfl ?_
        obtain ⟨g7, h⟩ := wp_gd h
        refine dq_iald wi_337_41 t_126 g7 ?_
        refine rs_S wi_337_42 wc_337_305 (Or.inl rfl) rfl (Nat.le_trans (by decide) hF) (ml_le wm_482 (Nat.le_trans (by decide) hLo)) rfl (sp_482 (Nat.le_trans (by decide : 0 ≤ 1 - 1) (Nat.sub_le_sub_right hF 1)) (ml_sub wm_482 (Nat.le_trans (by decide : 0 ≤ 26 - 20) (Nat.sub_le_sub_right hLo 20))) (wp_bind h) (fun v8 h => rs_back1 ?_))
        refine rs_pure wi_337_45 rfl ?_
        obtain ⟨v10, e11, h⟩ := wp_lt h
        refine rs_topi e11 ?_
        refine dl_ist wi_337_46 rfl (fun lv l4 t9 => ?_)
        have l0 := t9 _ _ (by decide) (Or.inl rfl) l0
        have l1 := t9 _ _ (by decide) (Or.inl rfl) l1
        have l2 := t9 _ _ (by decide) (Or.inl rfl) l2
        have l3 := t9 _ _ (by decide) (Or.inl rfl) l3
        have l5 := t9 _ _ (by decide) (Or.inl rfl) l5
        obtain ⟨v13, e14, h⟩ := wp_lt h
        refine dl_inc wi_337_48 l5 rfl e14 (fun lv l5 t12 => ?_)
        have l0 := t12 _ _ (by decide) (Or.inl rfl) l0
        have l1 := t12 _ _ (by decide) (Or.inl rfl) l1
        have l2 := t12 _ _ (by decide) (Or.inl rfl) l2
        have l3 := t12 _ _ (by decide) (Or.inl rfl) l3
        have l4 := t12 _ _ (by decide) (Or.inl rfl) l4
        refine rs_goto (tg := 10) wi_337_51 ⟨by decide, by decide⟩ ?_
        exact h _ l0 l1 l2 l3 l4 l5
  ·
    intro x15 h lv l4
    refine rs_ild wi_337_54 l4 ?_
    exact rs_iret wi_337_56 wr_337 rfl (hQ x15 h)
theorem wa_12_336 : rz_cn 12 (rx_yn (rt_P sc fm) 336).cls = true := (by decide +kernel : rz_cn 12 (rt_yn 336).cls = true)
theorem wa_12_337 : rz_cn 12 (rx_yn (rt_P sc fm) 337).cls = true := (by decide +kernel : rz_cn 12 (rt_yn 337).cls = true)
theorem wc_335_127 : rx_ct (rt_P sc fm) 335 127 = some (0, 333, 3) := (by decide +kernel : rt_ct 335 127 = some (0, 333, 3))
theorem wc_335_271 : rx_ct (rt_P sc fm) 335 271 = some (0, 336, 2) := (by decide +kernel : rt_ct 335 271 = some (0, 336, 2))
theorem wc_335_274 : rx_ct (rt_P sc fm) 335 274 = some (0, 337, 3) := (by decide +kernel : rt_ct 335 274 = some (0, 337, 3))
theorem wf_335_119 : rx_ft (rt_P sc fm) 335 119 = some (2, 6) := (by decide +kernel : rt_ft 335 119 = some (2, 6))
theorem wf_335_124 : rx_ft (rt_P sc fm) 335 124 = some (2, 5) := (by decide +kernel : rt_ft 335 124 = some (2, 5))
theorem wf_335_23 : rx_ft (rt_P sc fm) 335 23 = some (12, 4) := (by decide +kernel : rt_ft 335 23 = some (12, 4))
theorem wf_335_268 : rx_ft (rt_P sc fm) 335 268 = some (2, 11) := (by decide +kernel : rt_ft 335 268 = some (2, 11))
theorem wf_335_35 : rx_ft (rt_P sc fm) 335 35 = some (12, 1) := (by decide +kernel : rt_ft 335 35 = some (12, 1))
theorem wi_335_0 : ri (rt_P sc fm) 335 0 (.aload_n 0) (1) := ri_of (by decide +kernel) rfl
theorem wi_335_1 : ri (rt_P sc fm) 335 1 (.iconst 0) (2) := ri_of (by decide +kernel) rfl
theorem wi_335_12 : ri (rt_P sc fm) 335 12 (.getfield 119) (15) := ri_of (by decide +kernel) rfl
theorem wi_335_15 : ri (rt_P sc fm) 335 15 (.iload_n 1) (16) := ri_of (by decide +kernel) rfl
theorem wi_335_16 : ri (rt_P sc fm) 335 16 (.iaload) (17) := ri_of (by decide +kernel) rfl
theorem wi_335_17 : ri (rt_P sc fm) 335 17 (.if_icmp .ge 56) (20) := ri_of (by decide +kernel) rfl
theorem wi_335_2 : ri (rt_P sc fm) 335 2 (.putfield 35) (5) := ri_of (by decide +kernel) rfl
theorem wi_335_20 : ri (rt_P sc fm) 335 20 (.aload_n 0) (21) := ri_of (by decide +kernel) rfl
theorem wi_335_21 : ri (rt_P sc fm) 335 21 (.getfield 23) (24) := ri_of (by decide +kernel) rfl
theorem wi_335_24 : ri (rt_P sc fm) 335 24 (.getfield 124) (27) := ri_of (by decide +kernel) rfl
theorem wi_335_27 : ri (rt_P sc fm) 335 27 (.iload_n 1) (28) := ri_of (by decide +kernel) rfl
theorem wi_335_28 : ri (rt_P sc fm) 335 28 (.iaload) (29) := ri_of (by decide +kernel) rfl
theorem wi_335_29 : ri (rt_P sc fm) 335 29 (.iload_n 3) (30) := ri_of (by decide +kernel) rfl
theorem wi_335_30 : ri (rt_P sc fm) 335 30 (.iadd) (31) := ri_of (by decide +kernel) rfl
theorem wi_335_31 : ri (rt_P sc fm) 335 31 (.istore 4) (33) := ri_of (by decide +kernel) rfl
theorem wi_335_33 : ri (rt_P sc fm) 335 33 (.iload_n 2) (34) := ri_of (by decide +kernel) rfl
theorem wi_335_34 : ri (rt_P sc fm) 335 34 (.ifCond .eq 10) (37) := ri_of (by decide +kernel) rfl
theorem wi_335_37 : ri (rt_P sc fm) 335 37 (.aload_n 0) (38) := ri_of (by decide +kernel) rfl
theorem wi_335_38 : ri (rt_P sc fm) 335 38 (.iload_n 1) (39) := ri_of (by decide +kernel) rfl
theorem wi_335_39 : ri (rt_P sc fm) 335 39 (.iload 4) (41) := ri_of (by decide +kernel) rfl
theorem wi_335_41 : ri (rt_P sc fm) 335 41 (.invokevirtual 271) (44) := ri_of (by decide +kernel) rfl
theorem wi_335_44 : ri (rt_P sc fm) 335 44 (.aload_n 0) (45) := ri_of (by decide +kernel) rfl
theorem wi_335_45 : ri (rt_P sc fm) 335 45 (.iload_n 1) (46) := ri_of (by decide +kernel) rfl
theorem wi_335_46 : ri (rt_P sc fm) 335 46 (.iload 4) (48) := ri_of (by decide +kernel) rfl
theorem wi_335_48 : ri (rt_P sc fm) 335 48 (.aload_n 0) (49) := ri_of (by decide +kernel) rfl
theorem wi_335_49 : ri (rt_P sc fm) 335 49 (.iload_n 1) (50) := ri_of (by decide +kernel) rfl
theorem wi_335_5 : ri (rt_P sc fm) 335 5 (.iconst 0) (6) := ri_of (by decide +kernel) rfl
theorem wi_335_50 : ri (rt_P sc fm) 335 50 (.aload_n 0) (51) := ri_of (by decide +kernel) rfl
theorem wi_335_51 : ri (rt_P sc fm) 335 51 (.getfield 23) (54) := ri_of (by decide +kernel) rfl
theorem wi_335_54 : ri (rt_P sc fm) 335 54 (.getfield 268) (57) := ri_of (by decide +kernel) rfl
theorem wi_335_57 : ri (rt_P sc fm) 335 57 (.iload 4) (59) := ri_of (by decide +kernel) rfl
theorem wi_335_59 : ri (rt_P sc fm) 335 59 (.iaload) (60) := ri_of (by decide +kernel) rfl
theorem wi_335_6 : ri (rt_P sc fm) 335 6 (.istore_n 3) (7) := ri_of (by decide +kernel) rfl
theorem wi_335_60 : ri (rt_P sc fm) 335 60 (.iload_n 2) (61) := ri_of (by decide +kernel) rfl
theorem wi_335_61 : ri (rt_P sc fm) 335 61 (.invokevirtual 274) (64) := ri_of (by decide +kernel) rfl
theorem wi_335_64 : ri (rt_P sc fm) 335 64 (.invokevirtual 127) (67) := ri_of (by decide +kernel) rfl
theorem wi_335_67 : ri (rt_P sc fm) 335 67 (.iinc 3 1) (70) := ri_of (by decide +kernel) rfl
theorem wi_335_7 : ri (rt_P sc fm) 335 7 (.iload_n 3) (8) := ri_of (by decide +kernel) rfl
theorem wi_335_70 : ri (rt_P sc fm) 335 70 (.goto (-63)) (73) := ri_of (by decide +kernel) rfl
theorem wi_335_73 : ri (rt_P sc fm) 335 73 (.aload_n 0) (74) := ri_of (by decide +kernel) rfl
theorem wi_335_74 : ri (rt_P sc fm) 335 74 (.getfield 35) (77) := ri_of (by decide +kernel) rfl
theorem wi_335_77 : ri (rt_P sc fm) 335 77 (.ireturn) (78) := ri_of (by decide +kernel) rfl
theorem wi_335_8 : ri (rt_P sc fm) 335 8 (.aload_n 0) (9) := ri_of (by decide +kernel) rfl
theorem wi_335_9 : ri (rt_P sc fm) 335 9 (.getfield 23) (12) := ri_of (by decide +kernel) rfl
theorem wm_336 : rx_ml (rt_P sc fm) 336 = 6 := (by decide +kernel : rt_ml 336 = 6)
theorem wm_337 : rx_ml (rt_P sc fm) 337 = 6 := (by decide +kernel : rt_ml 337 = 6)
theorem wp_335_35 : rx_pt (rt_P sc fm) 335 35 = some (12, 1, .int) := (by decide +kernel : rt_pt 335 35 = some (12, 1, .int))
theorem wr_335 : rx_rt (rt_P sc fm) 335 = (some FieldType.int) := (by decide +kernel : rt_rt 335 = (some FieldType.int))
/-- MarkHouse$Teller.writeCode(IZ)I -/
def d_335 (n : Nat) (a1 : Int32) (a2 : Int32) (c : cS) : Option (Int32 × cS) :=
  lt (pI c 172 1 0) (fun c1 =>
  Option.bind (whl (R := (cS)) (fun s4 : Int32 × cS =>
    if ib a1 96 then
    if (s4.2.1 120 (ix a1)) ≤ s4.1 then
      some (.inr s4.2)
    else
      if ib a1 96 then
      lt (((s4.2.1 119 (ix a1)) + s4.1) : Int32) (fun v8 =>
      jn (fun p10 : cS =>
        if ib v8 1024 then
        Option.bind (d_337 n a1 (p10.1 124 (ix v8)) a2 p10) (fun v12 =>
        Option.bind (d_333 n a1 v8 v12 p10) (fun r13 =>
        lt (s4.1 + 1 : Int32) (fun v15 =>
        some (.inl (v15, r13)))))
        else none)
      (fun j44 =>
      if a2 = 0 then
        j44 s4.2
      else
        Option.bind (d_336 n a1 v8 s4.2) (fun r17 =>
        j44 r17)))
      else none
    else none) n (0, c1))
  (fun x18 : cS =>
    some ((x18.1 172 1), x18)))
set_option maxRecDepth 100000 in
set_option maxHeartbeats 4000000 in
theorem sp_335 {F Lo n : Nat} {a1 : Int32} {a2 : Int32} {c y : cS} {w : cW} {K : Int32 × cS → Prop} {Q : ((Option Value) ⊕ String) → List va_E → Prop} (hw : rOK fm w) (hF : 9 ≤ F) (hLo : 201 ≤ Lo)  (h : wp (d_335 n a1 a2 c) K) (hQ : ∀ r, K r → Q (.inl (some (.int r.1))) (hq true r.2 y w)) : rs (rt_P sc fm) 335 F Lo 0 [(0, .ref 172), (1, .int a1), (2, .int a2)] [] (hq true c y w) Q := by
  unfold d_335 at h
  obtain ⟨lv, elv⟩ : ∃ lv : rx_L, lv = [(0, .ref 172), (1, .int a1), (2, .int a2)] := ⟨_, rfl⟩
  rw [← elv]
  have l0 : rx_ld lv 0 = some (.ref 172) := by rw [elv]; rfl
  have l1 : rx_ld lv 1 = some (.int a1) := by rw [elv]; rfl
  have l2 : rx_ld lv 2 = some (.int a2) := by rw [elv]; rfl
  refine rs_aldn wi_335_0 l0 ?_
  refine rs_pure wi_335_1 rfl ?_
  refine rs_topi (v := 0) (by decide) ?_
  obtain ⟨c1, e2, h⟩ := wp_lt h
  refine dq_pi wi_335_2 wp_335_35 tf_172_1 rfl rfl e2 ?_
  refine rs_pure wi_335_5 rfl ?_
  refine rs_topi (v := 0) (by decide) ?_
  refine dl_istn wi_335_6 rfl (fun lv l3 t3 => ?_)
  have l0 := t3 _ _ (by decide) (Or.inl rfl) l0
  have l1 := t3 _ _ (by decide) (Or.inl rfl) l1
  have l2 := t3 _ _ (by decide) (Or.inl rfl) l2
  refine whl_ex (A := fun s4 : Int32 × cS => ∀ lv, rx_ld lv 0 = some (.ref 172) → rx_ld lv 1 = some (.int a1) → rx_ld lv 2 = some (.int a2) → rx_ld lv 3 = some (.int s4.1) → rs (rt_P sc fm) 335 F Lo 7 lv [] (hq true s4.2 y w) Q) (B := (fun x18 : cS => ∀ lv, rx_ld lv 0 = some (.ref 172) → rs (rt_P sc fm) 335 F Lo 73 lv [] (hq true x18 y w) Q)) ?_ ?_ _ _ (wp_bind h) _ l0 l1 l2 l3
  · intro s4 h lv l0 l1 l2 l3
    refine rs_ildn wi_335_7 l3 ?_
    refine rs_aldn wi_335_8 l0 ?_
    refine dq_gr wi_335_9 wf_335_23 tf_172_4 ?_
    refine dq_gr wi_335_12 wf_335_119 tf_114_6 ?_
    refine rs_ildn wi_335_15 l1 ?_
    obtain ⟨g5, h⟩ := wp_gd h
    refine dq_iald wi_335_16 t_120 g5 ?_
    refine rs_icge (tg := 73) wi_335_17 ⟨by decide, by decide⟩ (fun q => ?_) (fun q => ?_)
    ·
      have h := wp_pos h q
      exact h _ l0
    ·
      have h := wp_neg h q
      refine rs_aldn wi_335_20 l0 ?_
      refine dq_gr wi_335_21 wf_335_23 tf_172_4 ?_
      refine dq_gr wi_335_24 wf_335_124 tf_114_5 ?_
      refine rs_ildn wi_335_27 l1 ?_
      obtain ⟨g6, h⟩ := wp_gd h
      refine dq_iald wi_335_28 t_119 g6 ?_
      refine rs_ildn wi_335_29 l3 ?_
      refine rs_pure wi_335_30 rfl ?_
      obtain ⟨v8, e9, h⟩ := wp_lt h
      refine rs_topi e9 ?_
      refine dl_ist wi_335_31 rfl (fun lv l4 t7 => ?_)
      have l0 := t7 _ _ (by decide) (Or.inl rfl) l0
      have l1 := t7 _ _ (by decide) (Or.inl rfl) l1
      have l2 := t7 _ _ (by decide) (Or.inl rfl) l2
      have l3 := t7 _ _ (by decide) (Or.inl rfl) l3
      refine rs_ildn wi_335_33 l2 ?_
      refine wp_jn (B := fun p10 : cS => ∀ lv, rx_ld lv 0 = some (.ref 172) → rx_ld lv 1 = some (.int a1) → rx_ld lv 2 = some (.int a2) → rx_ld lv 3 = some (.int s4.1) → rx_ld lv 4 = some (.int v8) → rs (rt_P sc fm) 335 F Lo 44 lv [] (hq true p10 y w) Q) h (fun p10 h lv l0 l1 l2 l3 l4 => ?_) (fun j44 hj44 h => ?_)
      ·
        refine rs_aldn wi_335_44 l0 ?_
        refine rs_ildn wi_335_45 l1 ?_
        refine rs_ild wi_335_46 l4 ?_
        refine rs_aldn wi_335_48 l0 ?_
        refine rs_ildn wi_335_49 l1 ?_
        refine rs_aldn wi_335_50 l0 ?_
        refine dq_gr wi_335_51 wf_335_23 tf_172_4 ?_
        refine dq_gr wi_335_54 wf_335_268 tf_114_11 ?_
        refine rs_ild wi_335_57 l4 ?_
        obtain ⟨g11, h⟩ := wp_gd h
        refine dq_iald wi_335_59 t_124 g11 ?_
        refine rs_ildn wi_335_60 l2 ?_
        refine rs_V wi_335_61 wc_335_274 rfl (dq_isa tf_172_0 wa_12_337) (Nat.le_trans (by decide) hF) (ml_le wm_337 (Nat.le_trans (by decide) hLo)) rfl (sp_337 hw (Nat.le_trans (by decide : 1 ≤ 9 - 1) (Nat.sub_le_sub_right hF 1)) (ml_sub wm_337 (Nat.le_trans (by decide : 26 ≤ 201 - 25) (Nat.sub_le_sub_right hLo 25))) (wp_bind h) (fun v12 h => rs_back1 ?_))
        refine rs_V wi_335_64 wc_335_127 rfl (dq_isa tf_172_0 wa_12_333) (Nat.le_trans (by decide) hF) (ml_le wm_333 (Nat.le_trans (by decide) hLo)) rfl (sp_333 hw (Nat.le_trans (by decide : 8 ≤ 9 - 1) (Nat.sub_le_sub_right hF 1)) (ml_sub wm_333 (Nat.le_trans (by decide : 178 ≤ 201 - 23) (Nat.sub_le_sub_right hLo 23))) (wp_bind h) (fun r13 h => rs_back0 ?_))
        obtain ⟨v15, e16, h⟩ := wp_lt h
        refine dl_inc wi_335_67 l3 rfl e16 (fun lv l3 t14 => ?_)
        have l0 := t14 _ _ (by decide) (Or.inl rfl) l0
        have l1 := t14 _ _ (by decide) (Or.inl rfl) l1
        have l2 := t14 _ _ (by decide) (Or.inl rfl) l2
        refine rs_goto (tg := 7) wi_335_70 ⟨by decide, by decide⟩ ?_
        exact h _ l0 l1 l2 l3
      refine rs_ifeq (tg := 44) wi_335_34 ⟨by decide, by decide⟩ (fun q => ?_) (fun q => ?_)
      ·
        have h := wp_pos h q
        exact hj44 _ h _ l0 l1 l2 l3 l4
      ·
        have h := wp_neg h q
        refine rs_aldn wi_335_37 l0 ?_
        refine rs_ildn wi_335_38 l1 ?_
        refine rs_ild wi_335_39 l4 ?_
        refine rs_V wi_335_41 wc_335_271 rfl (dq_isa tf_172_0 wa_12_336) (Nat.le_trans (by decide) hF) (ml_le wm_336 (Nat.le_trans (by decide) hLo)) rfl (sp_336 hw (Nat.le_trans (by decide : 5 ≤ 9 - 1) (Nat.sub_le_sub_right hF 1)) (ml_sub wm_336 (Nat.le_trans (by decide : 108 ≤ 201 - 25) (Nat.sub_le_sub_right hLo 25))) (wp_bind h) (fun r17 h => rs_back0 ?_))
        exact hj44 _ h _ l0 l1 l2 l3 l4
  ·
    intro x18 h lv l0
    refine rs_aldn wi_335_73 l0 ?_
    refine dq_gi wi_335_74 wf_335_35 tf_172_1 ?_
    exact rs_iret wi_335_77 wr_335 rfl (hQ ((x18.1 172 1), x18) h)
theorem wa_12_335 : rz_cn 12 (rx_yn (rt_P sc fm) 335).cls = true := (by decide +kernel : rz_cn 12 (rt_yn 335).cls = true)
theorem wc_81_146 : rx_ct (rt_P sc fm) 81 146 = some (0, 21, 1) := (by decide +kernel : rt_ct 81 146 = some (0, 21, 1))
theorem wc_81_154 : rx_ct (rt_P sc fm) 81 154 = some (0, 22, 1) := (by decide +kernel : rt_ct 81 154 = some (0, 22, 1))
theorem wc_81_328 : rx_ct (rt_P sc fm) 81 328 = some (0, 335, 2) := (by decide +kernel : rt_ct 81 328 = some (0, 335, 2))
theorem wf_81_28 : rx_ft (rt_P sc fm) 81 28 = some (14, 2) := (by decide +kernel : rt_ft 81 28 = some (14, 2))
theorem wf_81_91 : rx_ft (rt_P sc fm) 81 91 = some (14, 9) := (by decide +kernel : rt_ft 81 91 = some (14, 9))
theorem wi_81_0 : ri (rt_P sc fm) 81 0 (.aload_n 0) (1) := ri_of (by decide +kernel) rfl
theorem wi_81_1 : ri (rt_P sc fm) 81 1 (.getfield 28) (4) := ri_of (by decide +kernel) rfl
theorem wi_81_12 : ri (rt_P sc fm) 81 12 (.aload_n 0) (13) := ri_of (by decide +kernel) rfl
theorem wi_81_13 : ri (rt_P sc fm) 81 13 (.getfield 91) (16) := ri_of (by decide +kernel) rfl
theorem wi_81_16 : ri (rt_P sc fm) 81 16 (.aload_n 0) (17) := ri_of (by decide +kernel) rfl
theorem wi_81_17 : ri (rt_P sc fm) 81 17 (.getfield 28) (20) := ri_of (by decide +kernel) rfl
theorem wi_81_20 : ri (rt_P sc fm) 81 20 (.iload_n 1) (21) := ri_of (by decide +kernel) rfl
theorem wi_81_21 : ri (rt_P sc fm) 81 21 (.invokevirtual 154) (24) := ri_of (by decide +kernel) rfl
theorem wi_81_24 : ri (rt_P sc fm) 81 24 (.iload_n 2) (25) := ri_of (by decide +kernel) rfl
theorem wi_81_25 : ri (rt_P sc fm) 81 25 (.invokevirtual 328) (28) := ri_of (by decide +kernel) rfl
theorem wi_81_28 : ri (rt_P sc fm) 81 28 (.goto 4) (31) := ri_of (by decide +kernel) rfl
theorem wi_81_31 : ri (rt_P sc fm) 81 31 (.iconst (-1)) (32) := ri_of (by decide +kernel) rfl
theorem wi_81_32 : ri (rt_P sc fm) 81 32 (.ireturn) (33) := ri_of (by decide +kernel) rfl
theorem wi_81_4 : ri (rt_P sc fm) 81 4 (.iload_n 1) (5) := ri_of (by decide +kernel) rfl
theorem wi_81_5 : ri (rt_P sc fm) 81 5 (.invokevirtual 146) (8) := ri_of (by decide +kernel) rfl
theorem wi_81_8 : ri (rt_P sc fm) 81 8 (.iconst 2) (9) := ri_of (by decide +kernel) rfl
theorem wi_81_9 : ri (rt_P sc fm) 81 9 (.if_icmp .ne 22) (12) := ri_of (by decide +kernel) rfl
theorem wm_335 : rx_ml (rt_P sc fm) 335 = 5 := (by decide +kernel : rt_ml 335 = 5)
theorem wr_81 : rx_rt (rt_P sc fm) 81 = (some FieldType.int) := (by decide +kernel : rt_rt 81 = (some FieldType.int))
/-- MarkHouse.code(IZ)I -/
def d_81 (n : Nat) (a1 : Int32) (a2 : Int32) (c : cS) : Option (Int32 × cS) :=
  Option.bind (d_21 n a1 c) (fun v1 =>
  jn (fun p2 : Int32 × cS =>
    some (p2.1, p2.2))
  (fun j32 =>
  if v1 = 2 then
    Option.bind (d_22 n a1) (fun v3 =>
    Option.bind (d_335 n v3 a2 c) (fun r4 =>
    j32 (r4.1, r4.2)))
  else
    j32 ((-1), c)))
set_option maxRecDepth 100000 in
set_option maxHeartbeats 4000000 in
theorem sp_81 {F Lo n : Nat} {a1 : Int32} {a2 : Int32} {c y : cS} {w : cW} {K : Int32 × cS → Prop} {Q : ((Option Value) ⊕ String) → List va_E → Prop} (hw : rOK fm w) (hF : 10 ≤ F) (hLo : 225 ≤ Lo)  (h : wp (d_81 n a1 a2 c) K) (hQ : ∀ r, K r → Q (.inl (some (.int r.1))) (hq true r.2 y w)) : rs (rt_P sc fm) 81 F Lo 0 [(0, .ref 0), (1, .int a1), (2, .int a2)] [] (hq true c y w) Q := by
  unfold d_81 at h
  obtain ⟨lv, elv⟩ : ∃ lv : rx_L, lv = [(0, .ref 0), (1, .int a1), (2, .int a2)] := ⟨_, rfl⟩
  rw [← elv]
  have l0 : rx_ld lv 0 = some (.ref 0) := by rw [elv]; rfl
  have l1 : rx_ld lv 1 = some (.int a1) := by rw [elv]; rfl
  have l2 : rx_ld lv 2 = some (.int a2) := by rw [elv]; rfl
  refine rs_aldn wi_81_0 l0 ?_
  refine dq_gr wi_81_1 wf_81_28 tf_0_2 ?_
  refine rs_ildn wi_81_4 l1 ?_
  refine rs_V wi_81_5 wc_81_146 rfl (dq_isa tf_114_0 wa_2_21) (Nat.le_trans (by decide) hF) (ml_le wm_21 (Nat.le_trans (by decide) hLo)) rfl (sp_21 hw (Nat.le_trans (by decide : 1 ≤ 10 - 1) (Nat.sub_le_sub_right hF 1)) (ml_sub wm_21 (Nat.le_trans (by decide : 21 ≤ 225 - 23) (Nat.sub_le_sub_right hLo 23))) (wp_bind h) (fun v1 h => rs_back1 ?_))
  refine rs_pure wi_81_8 rfl ?_
  refine rs_topi (v := 2) (by decide) ?_
  refine wp_jn (B := fun p2 : Int32 × cS => ∀ lv, rs (rt_P sc fm) 81 F Lo 32 lv [.int p2.1] (hq true p2.2 y w) Q) h (fun p2 h lv => ?_) (fun j32 hj32 h => ?_)
  ·
    exact rs_iret wi_81_32 wr_81 rfl (hQ (p2.1, p2.2) h)
  refine rs_icne (tg := 31) wi_81_9 ⟨by decide, by decide⟩ (fun q => ?_) (fun q => ?_)
  ·
    have h := wp_neg h q
    refine rs_pure wi_81_31 rfl ?_
    refine rs_topi (v := (-1)) (by decide) ?_
    exact hj32 _ h _
  ·
    have h := wp_pos h q
    refine rs_aldn wi_81_12 l0 ?_
    refine dq_gr wi_81_13 wf_81_91 tf_0_9 ?_
    refine rs_aldn wi_81_16 l0 ?_
    refine dq_gr wi_81_17 wf_81_28 tf_0_2 ?_
    refine rs_ildn wi_81_20 l1 ?_
    refine rs_V wi_81_21 wc_81_154 rfl (dq_isa tf_114_0 wa_2_22) (Nat.le_trans (by decide) hF) (ml_le wm_22 (Nat.le_trans (by decide) hLo)) rfl (sp_22 (Nat.le_trans (by decide : 0 ≤ 10 - 1) (Nat.sub_le_sub_right hF 1)) (ml_sub wm_22 (Nat.le_trans (by decide : 0 ≤ 225 - 21) (Nat.sub_le_sub_right hLo 21))) (wp_bind h) (fun v3 h => rs_back1 ?_))
    refine rs_ildn wi_81_24 l2 ?_
    refine rs_V wi_81_25 wc_81_328 rfl (dq_isa tf_172_0 wa_12_335) (Nat.le_trans (by decide) hF) (ml_le wm_335 (Nat.le_trans (by decide) hLo)) rfl (sp_335 hw (Nat.le_trans (by decide : 9 ≤ 10 - 1) (Nat.sub_le_sub_right hF 1)) (ml_sub wm_335 (Nat.le_trans (by decide : 201 ≤ 225 - 24) (Nat.sub_le_sub_right hLo 24))) (wp_bind h) (fun r4 h => rs_back1 ?_))
    refine rs_goto (tg := 32) wi_81_28 ⟨by decide, by decide⟩ ?_
    exact hj32 _ h _
theorem t_160 : ta true 160 0 4 := ⟨rfl, by decide, by decide⟩
theorem tf_159_3 : fo true 159 11 3 (.ref 160) := ⟨_, rfl, rfl, by decide, by decide⟩
theorem wf_82_332 : rx_ft (rt_P sc fm) 82 332 = some (11, 3) := (by decide +kernel : rt_ft 82 332 = some (11, 3))
theorem wf_82_69 : rx_ft (rt_P sc fm) 82 69 = some (14, 7) := (by decide +kernel : rt_ft 82 69 = some (14, 7))
theorem wi_82_0 : ri (rt_P sc fm) 82 0 (.iload_n 1) (1) := ri_of (by decide +kernel) rfl
theorem wi_82_1 : ri (rt_P sc fm) 82 1 (.ifCond .lt 8) (4) := ri_of (by decide +kernel) rfl
theorem wi_82_10 : ri (rt_P sc fm) 82 10 (.ireturn) (11) := ri_of (by decide +kernel) rfl
theorem wi_82_11 : ri (rt_P sc fm) 82 11 (.aload_n 0) (12) := ri_of (by decide +kernel) rfl
theorem wi_82_12 : ri (rt_P sc fm) 82 12 (.getfield 69) (15) := ri_of (by decide +kernel) rfl
theorem wi_82_15 : ri (rt_P sc fm) 82 15 (.getfield 332) (18) := ri_of (by decide +kernel) rfl
theorem wi_82_18 : ri (rt_P sc fm) 82 18 (.iload_n 1) (19) := ri_of (by decide +kernel) rfl
theorem wi_82_19 : ri (rt_P sc fm) 82 19 (.iload_n 2) (20) := ri_of (by decide +kernel) rfl
theorem wi_82_20 : ri (rt_P sc fm) 82 20 (.iastore) (21) := ri_of (by decide +kernel) rfl
theorem wi_82_21 : ri (rt_P sc fm) 82 21 (.iconst 1) (22) := ri_of (by decide +kernel) rfl
theorem wi_82_22 : ri (rt_P sc fm) 82 22 (.ireturn) (23) := ri_of (by decide +kernel) rfl
theorem wi_82_4 : ri (rt_P sc fm) 82 4 (.iload_n 1) (5) := ri_of (by decide +kernel) rfl
theorem wi_82_5 : ri (rt_P sc fm) 82 5 (.iconst 4) (6) := ri_of (by decide +kernel) rfl
theorem wi_82_6 : ri (rt_P sc fm) 82 6 (.if_icmp .lt 5) (9) := ri_of (by decide +kernel) rfl
theorem wi_82_9 : ri (rt_P sc fm) 82 9 (.iconst 0) (10) := ri_of (by decide +kernel) rfl
theorem wr_82 : rx_rt (rt_P sc fm) 82 = (some FieldType.boolean) := (by decide +kernel : rt_rt 82 = (some FieldType.boolean))
/-- MarkHouse.argument(II)Z -/
def d_82 (n : Nat) (a1 : Int32) (a2 : Int32) (c : cS) : Option (Int32 × cS) :=
  jn (fun p1 : Unit =>
    some (0, c))
  (fun j9 =>
  if a1 < 0 then
    j9 ()
  else
    if a1 < 4 then
      if ib a1 4 then
      lt (pI c 160 (ix a1) a2) (fun c3 =>
      some (1, c3))
      else none
    else
      j9 ())
set_option maxRecDepth 100000 in
set_option maxHeartbeats 4000000 in
theorem sp_82 {F Lo n : Nat} {a1 : Int32} {a2 : Int32} {c y : cS} {w : cW} {K : Int32 × cS → Prop} {Q : ((Option Value) ⊕ String) → List va_E → Prop} (hw : rOK fm w) (hF : 0 ≤ F) (hLo : 0 ≤ Lo)  (h : wp (d_82 n a1 a2 c) K) (hQ : ∀ r, K r → Q (.inl (some (.int r.1))) (hq true r.2 y w)) : rs (rt_P sc fm) 82 F Lo 0 [(0, .ref 0), (1, .int a1), (2, .int a2)] [] (hq true c y w) Q := by
  unfold d_82 at h
  obtain ⟨lv, elv⟩ : ∃ lv : rx_L, lv = [(0, .ref 0), (1, .int a1), (2, .int a2)] := ⟨_, rfl⟩
  rw [← elv]
  have l0 : rx_ld lv 0 = some (.ref 0) := by rw [elv]; rfl
  have l1 : rx_ld lv 1 = some (.int a1) := by rw [elv]; rfl
  have l2 : rx_ld lv 2 = some (.int a2) := by rw [elv]; rfl
  refine rs_ildn wi_82_0 l1 ?_
  refine wp_jn (B := fun p1 : Unit => ∀ lv, rs (rt_P sc fm) 82 F Lo 9 lv [] (hq true c y w) Q) h (fun p1 h lv => ?_) (fun j9 hj9 h => ?_)
  ·
    refine rs_pure wi_82_9 rfl ?_
    refine rs_topi (v := 0) (by decide) ?_
    exact rs_iret wi_82_10 wr_82 (nb_n (by decide)) (hQ (0, c) h)
  refine rs_iflt (tg := 9) wi_82_1 ⟨by decide, by decide⟩ (fun q => ?_) (fun q => ?_)
  ·
    have h := wp_pos h q
    exact hj9 _ h _
  ·
    have h := wp_neg h q
    refine rs_ildn wi_82_4 l1 ?_
    refine rs_pure wi_82_5 rfl ?_
    refine rs_topi (v := 4) (by decide) ?_
    refine rs_iclt (tg := 11) wi_82_6 ⟨by decide, by decide⟩ (fun q => ?_) (fun q => ?_)
    ·
      have h := wp_pos h q
      refine rs_aldn wi_82_11 l0 ?_
      refine dq_gr wi_82_12 wf_82_69 tf_0_7 ?_
      refine dq_gr wi_82_15 wf_82_332 tf_159_3 ?_
      refine rs_ildn wi_82_18 l1 ?_
      refine rs_ildn wi_82_19 l2 ?_
      obtain ⟨g2, h⟩ := wp_gd h
      obtain ⟨c3, e4, h⟩ := wp_lt h
      refine dq_iast wi_82_20 t_160 g2 e4 ?_
      refine rs_pure wi_82_21 rfl ?_
      refine rs_topi (v := 1) (by decide) ?_
      exact rs_iret wi_82_22 wr_82 (nb_n (by decide)) (hQ (1, c3) h)
    ·
      have h := wp_neg h q
      exact hj9 _ h _
theorem wa_11_47 : rz_cn 11 (rx_yn (rt_P sc fm) 47).cls = true := (by decide +kernel : rz_cn 11 (rt_yn 47).cls = true)
theorem wc_83_335 : rx_ct (rt_P sc fm) 83 335 = some (0, 47, 1) := (by decide +kernel : rt_ct 83 335 = some (0, 47, 1))
theorem wf_83_69 : rx_ft (rt_P sc fm) 83 69 = some (14, 7) := (by decide +kernel : rt_ft 83 69 = some (14, 7))
theorem wi_83_0 : ri (rt_P sc fm) 83 0 (.aload_n 0) (1) := ri_of (by decide +kernel) rfl
theorem wi_83_1 : ri (rt_P sc fm) 83 1 (.getfield 69) (4) := ri_of (by decide +kernel) rfl
theorem wi_83_4 : ri (rt_P sc fm) 83 4 (.iload_n 1) (5) := ri_of (by decide +kernel) rfl
theorem wi_83_5 : ri (rt_P sc fm) 83 5 (.invokevirtual 335) (8) := ri_of (by decide +kernel) rfl
theorem wi_83_8 : ri (rt_P sc fm) 83 8 (.ireturn) (9) := ri_of (by decide +kernel) rfl
theorem wm_47 : rx_ml (rt_P sc fm) 47 = 2 := (by decide +kernel : rt_ml 47 = 2)
theorem wr_83 : rx_rt (rt_P sc fm) 83 = (some FieldType.int) := (by decide +kernel : rt_rt 83 = (some FieldType.int))
/-- MarkHouse.input(I)I -/
def d_83 (n : Nat) (a1 : Int32) (c : cS) : Option (Int32 × cS) :=
  Option.bind (d_47 n a1 c) (fun r1 =>
  some (r1.1, r1.2))
set_option maxRecDepth 100000 in
set_option maxHeartbeats 4000000 in
theorem sp_83 {F Lo n : Nat} {a1 : Int32} {c y : cS} {w : cW} {K : Int32 × cS → Prop} {Q : ((Option Value) ⊕ String) → List va_E → Prop} (hw : rOK fm w) (hF : 1 ≤ F) (hLo : 21 ≤ Lo)  (h : wp (d_83 n a1 c) K) (hQ : ∀ r, K r → Q (.inl (some (.int r.1))) (hq true r.2 y w)) : rs (rt_P sc fm) 83 F Lo 0 [(0, .ref 0), (1, .int a1)] [] (hq true c y w) Q := by
  unfold d_83 at h
  obtain ⟨lv, elv⟩ : ∃ lv : rx_L, lv = [(0, .ref 0), (1, .int a1)] := ⟨_, rfl⟩
  rw [← elv]
  have l0 : rx_ld lv 0 = some (.ref 0) := by rw [elv]; rfl
  have l1 : rx_ld lv 1 = some (.int a1) := by rw [elv]; rfl
  refine rs_aldn wi_83_0 l0 ?_
  refine dq_gr wi_83_1 wf_83_69 tf_0_7 ?_
  refine rs_ildn wi_83_4 l1 ?_
  refine rs_V wi_83_5 wc_83_335 rfl (dq_isa tf_159_0 wa_11_47) (Nat.le_trans (by decide) hF) (ml_le wm_47 (Nat.le_trans (by decide) hLo)) rfl (sp_47 hw (Nat.le_trans (by decide : 0 ≤ 1 - 1) (Nat.sub_le_sub_right hF 1)) (ml_sub wm_47 (Nat.le_trans (by decide : 0 ≤ 21 - 21) (Nat.sub_le_sub_right hLo 21))) (wp_bind h) (fun r1 h => rs_back1 ?_))
  exact rs_iret wi_83_8 wr_83 rfl (hQ (r1.1, r1.2) h)
theorem t_165 : ta true 165 1 192 := ⟨rfl, by decide, by decide⟩
theorem tf_159_14 : fo true 159 11 14 (.long 0) := ⟨_, rfl, rfl, by decide, by decide⟩
theorem tf_159_9 : fo true 159 11 9 (.ref 165) := ⟨_, rfl, rfl, by decide, by decide⟩
theorem wc_301_111 : rx_ct (rt_P sc fm) 301 111 = some (1, 152, 4) := (by decide +kernel : rt_ct 301 111 = some (1, 152, 4))
theorem wf_301_21 : rx_ft (rt_P sc fm) 301 21 = some (11, 7) := (by decide +kernel : rt_ft 301 21 = some (11, 7))
theorem wf_301_24 : rx_ft (rt_P sc fm) 301 24 = some (11, 8) := (by decide +kernel : rt_ft 301 24 = some (11, 8))
theorem wf_301_27 : rx_ft (rt_P sc fm) 301 27 = some (11, 9) := (by decide +kernel : rt_ft 301 27 = some (11, 9))
theorem wf_301_74 : rx_ft (rt_P sc fm) 301 74 = some (11, 14) := (by decide +kernel : rt_ft 301 74 = some (11, 14))
theorem wf_301_99 : rx_ft (rt_P sc fm) 301 99 = some (11, 10) := (by decide +kernel : rt_ft 301 99 = some (11, 10))
theorem wi_301_0 : ri (rt_P sc fm) 301 0 (.aload_n 0) (1) := ri_of (by decide +kernel) rfl
theorem wi_301_1 : ri (rt_P sc fm) 301 1 (.getfield 21) (4) := ri_of (by decide +kernel) rfl
theorem wi_301_10 : ri (rt_P sc fm) 301 10 (.aload_n 0) (11) := ri_of (by decide +kernel) rfl
theorem wi_301_11 : ri (rt_P sc fm) 301 11 (.getfield 24) (14) := ri_of (by decide +kernel) rfl
theorem wi_301_14 : ri (rt_P sc fm) 301 14 (.aload_n 0) (15) := ri_of (by decide +kernel) rfl
theorem wi_301_15 : ri (rt_P sc fm) 301 15 (.getfield 99) (18) := ri_of (by decide +kernel) rfl
theorem wi_301_18 : ri (rt_P sc fm) 301 18 (.iconst 0) (19) := ri_of (by decide +kernel) rfl
theorem wi_301_19 : ri (rt_P sc fm) 301 19 (.iastore) (20) := ri_of (by decide +kernel) rfl
theorem wi_301_20 : ri (rt_P sc fm) 301 20 (.aload_n 0) (21) := ri_of (by decide +kernel) rfl
theorem wi_301_21 : ri (rt_P sc fm) 301 21 (.getfield 27) (24) := ri_of (by decide +kernel) rfl
theorem wi_301_24 : ri (rt_P sc fm) 301 24 (.aload_n 0) (25) := ri_of (by decide +kernel) rfl
theorem wi_301_25 : ri (rt_P sc fm) 301 25 (.getfield 99) (28) := ri_of (by decide +kernel) rfl
theorem wi_301_28 : ri (rt_P sc fm) 301 28 (.bipush 16) (30) := ri_of (by decide +kernel) rfl
theorem wi_301_30 : ri (rt_P sc fm) 301 30 (.imul) (31) := ri_of (by decide +kernel) rfl
theorem wi_301_31 : ri (rt_P sc fm) 301 31 (.aload_n 0) (32) := ri_of (by decide +kernel) rfl
theorem wi_301_32 : ri (rt_P sc fm) 301 32 (.getfield 99) (35) := ri_of (by decide +kernel) rfl
theorem wi_301_35 : ri (rt_P sc fm) 301 35 (.bipush 16) (37) := ri_of (by decide +kernel) rfl
theorem wi_301_37 : ri (rt_P sc fm) 301 37 (.imul) (38) := ri_of (by decide +kernel) rfl
theorem wi_301_38 : ri (rt_P sc fm) 301 38 (.bipush 16) (40) := ri_of (by decide +kernel) rfl
theorem wi_301_4 : ri (rt_P sc fm) 301 4 (.aload_n 0) (5) := ri_of (by decide +kernel) rfl
theorem wi_301_40 : ri (rt_P sc fm) 301 40 (.iadd) (41) := ri_of (by decide +kernel) rfl
theorem wi_301_41 : ri (rt_P sc fm) 301 41 (.aload_n 0) (42) := ri_of (by decide +kernel) rfl
theorem wi_301_42 : ri (rt_P sc fm) 301 42 (.getfield 74) (45) := ri_of (by decide +kernel) rfl
theorem wi_301_45 : ri (rt_P sc fm) 301 45 (.invokestatic 111) (48) := ri_of (by decide +kernel) rfl
theorem wi_301_48 : ri (rt_P sc fm) 301 48 (.aload_n 0) (49) := ri_of (by decide +kernel) rfl
theorem wi_301_49 : ri (rt_P sc fm) 301 49 (.dup) (50) := ri_of (by decide +kernel) rfl
theorem wi_301_5 : ri (rt_P sc fm) 301 5 (.getfield 99) (8) := ri_of (by decide +kernel) rfl
theorem wi_301_50 : ri (rt_P sc fm) 301 50 (.getfield 99) (53) := ri_of (by decide +kernel) rfl
theorem wi_301_53 : ri (rt_P sc fm) 301 53 (.iconst 1) (54) := ri_of (by decide +kernel) rfl
theorem wi_301_54 : ri (rt_P sc fm) 301 54 (.iadd) (55) := ri_of (by decide +kernel) rfl
theorem wi_301_55 : ri (rt_P sc fm) 301 55 (.putfield 99) (58) := ri_of (by decide +kernel) rfl
theorem wi_301_58 : ri (rt_P sc fm) 301 58 (.return_) (59) := ri_of (by decide +kernel) rfl
theorem wi_301_8 : ri (rt_P sc fm) 301 8 (.iload_n 1) (9) := ri_of (by decide +kernel) rfl
theorem wi_301_9 : ri (rt_P sc fm) 301 9 (.iastore) (10) := ri_of (by decide +kernel) rfl
theorem wp_301_99 : rx_pt (rt_P sc fm) 301 99 = some (11, 10, .int) := (by decide +kernel : rt_pt 301 99 = some (11, 10, .int))
theorem wr_301 : rx_rt (rt_P sc fm) 301 = none := (by decide +kernel : rt_rt 301 = none)
/-- MarkHouse$Run.openFrame(I)V -/
def d_301 (n : Nat) (a1 : Int32) (c : cS) : Option (cS) :=
  if ib (c.1 159 10) 12 then
  lt (pI c 163 (ix (c.1 159 10)) a1) (fun c2 =>
  if ib (c2.1 159 10) 12 then
  lt (pI c2 164 (ix (c2.1 159 10)) 0) (fun c5 =>
  Option.bind (d_152 n 165 192 ((c5.1 159 10) * 16) (((c5.1 159 10) * 16) + 16) (c5.2 159 14) c5) (fun r7 =>
  lt (pI r7 159 10 ((r7.1 159 10) + 1)) (fun c8 =>
  some c8)))
  else none)
  else none
set_option maxRecDepth 100000 in
set_option maxHeartbeats 4000000 in
theorem sp_301 {F Lo n : Nat} {a1 : Int32} {c y : cS} {w : cW} {K : cS → Prop} {Q : ((Option Value) ⊕ String) → List va_E → Prop} (hw : rOK fm w) (hF : 2 ≤ F) (hLo : 47 ≤ Lo)  (h : wp (d_301 n a1 c) K) (hQ : ∀ r, K r → Q (.inl none) (hq true r y w)) : rs (rt_P sc fm) 301 F Lo 0 [(0, .ref 159), (1, .int a1)] [] (hq true c y w) Q := by
  unfold d_301 at h
  obtain ⟨lv, elv⟩ : ∃ lv : rx_L, lv = [(0, .ref 159), (1, .int a1)] := ⟨_, rfl⟩
  rw [← elv]
  have l0 : rx_ld lv 0 = some (.ref 159) := by rw [elv]; rfl
  have l1 : rx_ld lv 1 = some (.int a1) := by rw [elv]; rfl
  refine rs_aldn wi_301_0 l0 ?_
  refine dq_gr wi_301_1 wf_301_21 tf_159_7 ?_
  refine rs_aldn wi_301_4 l0 ?_
  refine dq_gi wi_301_5 wf_301_99 tf_159_10 ?_
  refine rs_ildn wi_301_8 l1 ?_
  obtain ⟨g1, h⟩ := wp_gd h
  obtain ⟨c2, e3, h⟩ := wp_lt h
  refine dq_iast wi_301_9 t_163 g1 e3 ?_
  refine rs_aldn wi_301_10 l0 ?_
  refine dq_gr wi_301_11 wf_301_24 tf_159_8 ?_
  refine rs_aldn wi_301_14 l0 ?_
  refine dq_gi wi_301_15 wf_301_99 tf_159_10 ?_
  refine rs_pure wi_301_18 rfl ?_
  refine rs_topi (v := 0) (by decide) ?_
  obtain ⟨g4, h⟩ := wp_gd h
  obtain ⟨c5, e6, h⟩ := wp_lt h
  refine dq_iast wi_301_19 t_164 g4 e6 ?_
  refine rs_aldn wi_301_20 l0 ?_
  refine dq_gr wi_301_21 wf_301_27 tf_159_9 ?_
  refine rs_aldn wi_301_24 l0 ?_
  refine dq_gi wi_301_25 wf_301_99 tf_159_10 ?_
  refine rs_pure wi_301_28 rfl ?_
  refine rs_topi (v := 16) (by decide) ?_
  refine rs_pure wi_301_30 rfl ?_
  refine rs_aldn wi_301_31 l0 ?_
  refine dq_gi wi_301_32 wf_301_99 tf_159_10 ?_
  refine rs_pure wi_301_35 rfl ?_
  refine rs_topi (v := 16) (by decide) ?_
  refine rs_pure wi_301_37 rfl ?_
  refine rs_pure wi_301_38 rfl ?_
  refine rs_topi (v := 16) (by decide) ?_
  refine rs_pure wi_301_40 rfl ?_
  refine rs_aldn wi_301_41 l0 ?_
  refine dq_gl wi_301_42 wf_301_74 tf_159_14 ?_
  refine rs_S wi_301_45 wc_301_111 (Or.inl rfl) rfl (Nat.le_trans (by decide) hF) (ml_le wm_152 (Nat.le_trans (by decide) hLo)) rfl (sp_152 hw (Nat.le_trans (by decide : 1 ≤ 2 - 1) (Nat.sub_le_sub_right hF 1)) (ml_sub wm_152 (Nat.le_trans (by decide : 22 ≤ 47 - 25) (Nat.sub_le_sub_right hLo 25))) t_165 (wp_bind h) (fun r7 h => rs_back0 ?_))
  refine rs_aldn wi_301_48 l0 ?_
  refine rs_pure wi_301_49 rfl ?_
  refine dq_gi wi_301_50 wf_301_99 tf_159_10 ?_
  refine rs_pure wi_301_53 rfl ?_
  refine rs_topi (v := 1) (by decide) ?_
  refine rs_pure wi_301_54 rfl ?_
  obtain ⟨c8, e9, h⟩ := wp_lt h
  refine dq_pi wi_301_55 wp_301_99 tf_159_10 rfl rfl e9 ?_
  exact rs_vret wi_301_58 wr_301 (hQ c8 h)
theorem t_166 : ta true 166 1 96 := ⟨rfl, by decide, by decide⟩
theorem tf_159_11 : fo true 159 11 11 (.ref 166) := ⟨_, rfl, rfl, by decide, by decide⟩
theorem tf_159_12 : fo true 159 11 12 (.int 0) := ⟨_, rfl, rfl, by decide, by decide⟩
theorem wa_11_301 : rz_cn 11 (rx_yn (rt_P sc fm) 301).cls = true := (by decide +kernel : rz_cn 11 (rt_yn 301).cls = true)
theorem wc_300_102 : rx_ct (rt_P sc fm) 300 102 = some (0, 301, 1) := (by decide +kernel : rt_ct 300 102 = some (0, 301, 1))
theorem wc_300_67 : rx_ct (rt_P sc fm) 300 67 = some (0, 48, 0) := (by decide +kernel : rt_ct 300 67 = some (0, 48, 0))
theorem wc_300_92 : rx_ct (rt_P sc fm) 300 92 = some (11, 356, 3) := (by decide +kernel : rt_ct 300 92 = some (11, 356, 3))
theorem wf_300_106 : rx_ft (rt_P sc fm) 300 106 = some (2, 2) := (by decide +kernel : rt_ft 300 106 = some (2, 2))
theorem wf_300_18 : rx_ft (rt_P sc fm) 300 18 = some (11, 6) := (by decide +kernel : rt_ft 300 18 = some (11, 6))
theorem wf_300_27 : rx_ft (rt_P sc fm) 300 27 = some (11, 9) := (by decide +kernel : rt_ft 300 27 = some (11, 9))
theorem wf_300_31 : rx_ft (rt_P sc fm) 300 31 = some (11, 11) := (by decide +kernel : rt_ft 300 31 = some (11, 11))
theorem wf_300_34 : rx_ft (rt_P sc fm) 300 34 = some (11, 0) := (by decide +kernel : rt_ft 300 34 = some (11, 0))
theorem wf_300_38 : rx_ft (rt_P sc fm) 300 38 = some (11, 1) := (by decide +kernel : rt_ft 300 38 = some (11, 1))
theorem wf_300_74 : rx_ft (rt_P sc fm) 300 74 = some (11, 14) := (by decide +kernel : rt_ft 300 74 = some (11, 14))
theorem wf_300_78 : rx_ft (rt_P sc fm) 300 78 = some (9, 2) := (by decide +kernel : rt_ft 300 78 = some (9, 2))
theorem wf_300_83 : rx_ft (rt_P sc fm) 300 83 = some (9, 1) := (by decide +kernel : rt_ft 300 83 = some (9, 1))
theorem wf_300_87 : rx_ft (rt_P sc fm) 300 87 = some (8, 3) := (by decide +kernel : rt_ft 300 87 = some (8, 3))
theorem wf_300_9 : rx_ft (rt_P sc fm) 300 9 = some (11, 3) := (by decide +kernel : rt_ft 300 9 = some (11, 3))
theorem wf_300_96 : rx_ft (rt_P sc fm) 300 96 = some (9, 13) := (by decide +kernel : rt_ft 300 96 = some (9, 13))
theorem wi_300_0 : ri (rt_P sc fm) 300 0 (.aload_n 0) (1) := ri_of (by decide +kernel) rfl
theorem wi_300_1 : ri (rt_P sc fm) 300 1 (.invokevirtual 67) (4) := ri_of (by decide +kernel) rfl
theorem wi_300_10 : ri (rt_P sc fm) 300 10 (.iastore) (11) := ri_of (by decide +kernel) rfl
theorem wi_300_101 : ri (rt_P sc fm) 300 101 (.lor) (102) := ri_of (by decide +kernel) rfl
theorem wi_300_102 : ri (rt_P sc fm) 300 102 (.lastore) (103) := ri_of (by decide +kernel) rfl
theorem wi_300_103 : ri (rt_P sc fm) 300 103 (.iinc 3 1) (106) := ri_of (by decide +kernel) rfl
theorem wi_300_106 : ri (rt_P sc fm) 300 106 (.goto (-37)) (109) := ri_of (by decide +kernel) rfl
theorem wi_300_109 : ri (rt_P sc fm) 300 109 (.aload_n 0) (110) := ri_of (by decide +kernel) rfl
theorem wi_300_11 : ri (rt_P sc fm) 300 11 (.aload_n 0) (12) := ri_of (by decide +kernel) rfl
theorem wi_300_110 : ri (rt_P sc fm) 300 110 (.iconst 0) (111) := ri_of (by decide +kernel) rfl
theorem wi_300_111 : ri (rt_P sc fm) 300 111 (.putfield 99) (114) := ri_of (by decide +kernel) rfl
theorem wi_300_114 : ri (rt_P sc fm) 300 114 (.aload_n 0) (115) := ri_of (by decide +kernel) rfl
theorem wi_300_115 : ri (rt_P sc fm) 300 115 (.iload_n 1) (116) := ri_of (by decide +kernel) rfl
theorem wi_300_116 : ri (rt_P sc fm) 300 116 (.invokevirtual 102) (119) := ri_of (by decide +kernel) rfl
theorem wi_300_119 : ri (rt_P sc fm) 300 119 (.iconst 0) (120) := ri_of (by decide +kernel) rfl
theorem wi_300_12 : ri (rt_P sc fm) 300 12 (.iload_n 2) (13) := ri_of (by decide +kernel) rfl
theorem wi_300_120 : ri (rt_P sc fm) 300 120 (.istore_n 3) (121) := ri_of (by decide +kernel) rfl
theorem wi_300_121 : ri (rt_P sc fm) 300 121 (.iload_n 3) (122) := ri_of (by decide +kernel) rfl
theorem wi_300_122 : ri (rt_P sc fm) 300 122 (.aload_n 0) (123) := ri_of (by decide +kernel) rfl
theorem wi_300_123 : ri (rt_P sc fm) 300 123 (.getfield 38) (126) := ri_of (by decide +kernel) rfl
theorem wi_300_126 : ri (rt_P sc fm) 300 126 (.getfield 106) (129) := ri_of (by decide +kernel) rfl
theorem wi_300_129 : ri (rt_P sc fm) 300 129 (.iload_n 1) (130) := ri_of (by decide +kernel) rfl
theorem wi_300_13 : ri (rt_P sc fm) 300 13 (.putfield 70) (16) := ri_of (by decide +kernel) rfl
theorem wi_300_130 : ri (rt_P sc fm) 300 130 (.iaload) (131) := ri_of (by decide +kernel) rfl
theorem wi_300_131 : ri (rt_P sc fm) 300 131 (.if_icmp .ge 31) (134) := ri_of (by decide +kernel) rfl
theorem wi_300_134 : ri (rt_P sc fm) 300 134 (.aload_n 0) (135) := ri_of (by decide +kernel) rfl
theorem wi_300_135 : ri (rt_P sc fm) 300 135 (.getfield 27) (138) := ri_of (by decide +kernel) rfl
theorem wi_300_138 : ri (rt_P sc fm) 300 138 (.iload_n 3) (139) := ri_of (by decide +kernel) rfl
theorem wi_300_139 : ri (rt_P sc fm) 300 139 (.aload_n 0) (140) := ri_of (by decide +kernel) rfl
theorem wi_300_140 : ri (rt_P sc fm) 300 140 (.getfield 9) (143) := ri_of (by decide +kernel) rfl
theorem wi_300_143 : ri (rt_P sc fm) 300 143 (.iload_n 3) (144) := ri_of (by decide +kernel) rfl
theorem wi_300_144 : ri (rt_P sc fm) 300 144 (.iaload) (145) := ri_of (by decide +kernel) rfl
theorem wi_300_145 : ri (rt_P sc fm) 300 145 (.i2l) (146) := ri_of (by decide +kernel) rfl
theorem wi_300_146 : ri (rt_P sc fm) 300 146 (.ldc2_w 65) (149) := ri_of (by decide +kernel) rfl
theorem wi_300_149 : ri (rt_P sc fm) 300 149 (.land) (150) := ri_of (by decide +kernel) rfl
theorem wi_300_150 : ri (rt_P sc fm) 300 150 (.aload_n 0) (151) := ri_of (by decide +kernel) rfl
theorem wi_300_151 : ri (rt_P sc fm) 300 151 (.getfield 74) (154) := ri_of (by decide +kernel) rfl
theorem wi_300_154 : ri (rt_P sc fm) 300 154 (.lor) (155) := ri_of (by decide +kernel) rfl
theorem wi_300_155 : ri (rt_P sc fm) 300 155 (.lastore) (156) := ri_of (by decide +kernel) rfl
theorem wi_300_156 : ri (rt_P sc fm) 300 156 (.iinc 3 1) (159) := ri_of (by decide +kernel) rfl
theorem wi_300_159 : ri (rt_P sc fm) 300 159 (.goto (-38)) (162) := ri_of (by decide +kernel) rfl
theorem wi_300_16 : ri (rt_P sc fm) 300 16 (.aload_n 0) (17) := ri_of (by decide +kernel) rfl
theorem wi_300_162 : ri (rt_P sc fm) 300 162 (.return_) (163) := ri_of (by decide +kernel) rfl
theorem wi_300_17 : ri (rt_P sc fm) 300 17 (.lconst 0) (18) := ri_of (by decide +kernel) rfl
theorem wi_300_18 : ri (rt_P sc fm) 300 18 (.putfield 74) (21) := ri_of (by decide +kernel) rfl
theorem wi_300_21 : ri (rt_P sc fm) 300 21 (.iconst 0) (22) := ri_of (by decide +kernel) rfl
theorem wi_300_22 : ri (rt_P sc fm) 300 22 (.istore_n 3) (23) := ri_of (by decide +kernel) rfl
theorem wi_300_23 : ri (rt_P sc fm) 300 23 (.iload_n 3) (24) := ri_of (by decide +kernel) rfl
theorem wi_300_24 : ri (rt_P sc fm) 300 24 (.aload_n 0) (25) := ri_of (by decide +kernel) rfl
theorem wi_300_25 : ri (rt_P sc fm) 300 25 (.getfield 34) (28) := ri_of (by decide +kernel) rfl
theorem wi_300_28 : ri (rt_P sc fm) 300 28 (.getfield 78) (31) := ri_of (by decide +kernel) rfl
theorem wi_300_31 : ri (rt_P sc fm) 300 31 (.if_icmp .ge 36) (34) := ri_of (by decide +kernel) rfl
theorem wi_300_34 : ri (rt_P sc fm) 300 34 (.aload_n 0) (35) := ri_of (by decide +kernel) rfl
theorem wi_300_35 : ri (rt_P sc fm) 300 35 (.aload_n 0) (36) := ri_of (by decide +kernel) rfl
theorem wi_300_36 : ri (rt_P sc fm) 300 36 (.getfield 74) (39) := ri_of (by decide +kernel) rfl
theorem wi_300_39 : ri (rt_P sc fm) 300 39 (.bipush 8) (41) := ri_of (by decide +kernel) rfl
theorem wi_300_4 : ri (rt_P sc fm) 300 4 (.aload_n 0) (5) := ri_of (by decide +kernel) rfl
theorem wi_300_41 : ri (rt_P sc fm) 300 41 (.iload_n 3) (42) := ri_of (by decide +kernel) rfl
theorem wi_300_42 : ri (rt_P sc fm) 300 42 (.iadd) (43) := ri_of (by decide +kernel) rfl
theorem wi_300_43 : ri (rt_P sc fm) 300 43 (.aload_n 0) (44) := ri_of (by decide +kernel) rfl
theorem wi_300_44 : ri (rt_P sc fm) 300 44 (.getfield 34) (47) := ri_of (by decide +kernel) rfl
theorem wi_300_47 : ri (rt_P sc fm) 300 47 (.getfield 83) (50) := ri_of (by decide +kernel) rfl
theorem wi_300_5 : ri (rt_P sc fm) 300 5 (.getfield 18) (8) := ri_of (by decide +kernel) rfl
theorem wi_300_50 : ri (rt_P sc fm) 300 50 (.iload_n 3) (51) := ri_of (by decide +kernel) rfl
theorem wi_300_51 : ri (rt_P sc fm) 300 51 (.aaload) (52) := ri_of (by decide +kernel) rfl
theorem wi_300_52 : ri (rt_P sc fm) 300 52 (.getfield 87) (55) := ri_of (by decide +kernel) rfl
theorem wi_300_55 : ri (rt_P sc fm) 300 55 (.invokestatic 92) (58) := ri_of (by decide +kernel) rfl
theorem wi_300_58 : ri (rt_P sc fm) 300 58 (.putfield 74) (61) := ri_of (by decide +kernel) rfl
theorem wi_300_61 : ri (rt_P sc fm) 300 61 (.iinc 3 1) (64) := ri_of (by decide +kernel) rfl
theorem wi_300_64 : ri (rt_P sc fm) 300 64 (.goto (-41)) (67) := ri_of (by decide +kernel) rfl
theorem wi_300_67 : ri (rt_P sc fm) 300 67 (.iconst 0) (68) := ri_of (by decide +kernel) rfl
theorem wi_300_68 : ri (rt_P sc fm) 300 68 (.istore_n 3) (69) := ri_of (by decide +kernel) rfl
theorem wi_300_69 : ri (rt_P sc fm) 300 69 (.iload_n 3) (70) := ri_of (by decide +kernel) rfl
theorem wi_300_70 : ri (rt_P sc fm) 300 70 (.aload_n 0) (71) := ri_of (by decide +kernel) rfl
theorem wi_300_71 : ri (rt_P sc fm) 300 71 (.getfield 31) (74) := ri_of (by decide +kernel) rfl
theorem wi_300_74 : ri (rt_P sc fm) 300 74 (.arraylength) (75) := ri_of (by decide +kernel) rfl
theorem wi_300_75 : ri (rt_P sc fm) 300 75 (.if_icmp .ge 34) (78) := ri_of (by decide +kernel) rfl
theorem wi_300_78 : ri (rt_P sc fm) 300 78 (.aload_n 0) (79) := ri_of (by decide +kernel) rfl
theorem wi_300_79 : ri (rt_P sc fm) 300 79 (.getfield 31) (82) := ri_of (by decide +kernel) rfl
theorem wi_300_8 : ri (rt_P sc fm) 300 8 (.iconst 0) (9) := ri_of (by decide +kernel) rfl
theorem wi_300_82 : ri (rt_P sc fm) 300 82 (.iload_n 3) (83) := ri_of (by decide +kernel) rfl
theorem wi_300_83 : ri (rt_P sc fm) 300 83 (.aload_n 0) (84) := ri_of (by decide +kernel) rfl
theorem wi_300_84 : ri (rt_P sc fm) 300 84 (.getfield 34) (87) := ri_of (by decide +kernel) rfl
theorem wi_300_87 : ri (rt_P sc fm) 300 87 (.getfield 96) (90) := ri_of (by decide +kernel) rfl
theorem wi_300_9 : ri (rt_P sc fm) 300 9 (.iconst 1) (10) := ri_of (by decide +kernel) rfl
theorem wi_300_90 : ri (rt_P sc fm) 300 90 (.iload_n 3) (91) := ri_of (by decide +kernel) rfl
theorem wi_300_91 : ri (rt_P sc fm) 300 91 (.iaload) (92) := ri_of (by decide +kernel) rfl
theorem wi_300_92 : ri (rt_P sc fm) 300 92 (.i2l) (93) := ri_of (by decide +kernel) rfl
theorem wi_300_93 : ri (rt_P sc fm) 300 93 (.ldc2_w 65) (96) := ri_of (by decide +kernel) rfl
theorem wi_300_96 : ri (rt_P sc fm) 300 96 (.land) (97) := ri_of (by decide +kernel) rfl
theorem wi_300_97 : ri (rt_P sc fm) 300 97 (.aload_n 0) (98) := ri_of (by decide +kernel) rfl
theorem wi_300_98 : ri (rt_P sc fm) 300 98 (.getfield 74) (101) := ri_of (by decide +kernel) rfl
theorem wk_300_65 : rx_kt (rt_P sc fm) 300 65 = some (.long (4294967295)) := (by decide +kernel : rt_kt 300 65 = some (.long (4294967295)))
theorem wm_301 : rx_ml (rt_P sc fm) 301 = 2 := (by decide +kernel : rt_ml 301 = 2)
theorem wp_300_70 : rx_pt (rt_P sc fm) 300 70 = some (11, 12, .boolean) := (by decide +kernel : rt_pt 300 70 = some (11, 12, .boolean))
theorem wp_300_74 : rx_pt (rt_P sc fm) 300 74 = some (11, 14, .long) := (by decide +kernel : rt_pt 300 74 = some (11, 14, .long))
theorem wp_300_99 : rx_pt (rt_P sc fm) 300 99 = some (11, 10, .int) := (by decide +kernel : rt_pt 300 99 = some (11, 10, .int))
theorem wr_300 : rx_rt (rt_P sc fm) 300 = none := (by decide +kernel : rt_rt 300 = none)
/-- MarkHouse$Run.start(IZ)V -/
def d_300 (n : Nat) (a1 : Int32) (a2 : Int32) (c : cS) : Option (cS) :=
  Option.bind (d_48 n c) (fun r1 =>
  if ib 0 12 then
  lt (pI r1 162 (ix 0) 1) (fun c3 =>
  if nb a2 then
  lt (pI c3 159 12 a2) (fun c6 =>
  lt (pL c6 159 14 0) (fun c8 =>
  Option.bind (whl (R := (cS)) (fun s11 : Int32 × cS =>
    if (s11.2.1 7 2) ≤ s11.1 then
      some (.inr s11.2)
    else
      if ib s11.1 4 then
      Option.bind (d_356 n (s11.2.2 159 14) (8 + s11.1) (s11.2.1 (oA (ix s11.1)) 3)) (fun v13 =>
      lt (pL s11.2 159 14 v13) (fun c14 =>
      lt (s11.1 + 1 : Int32) (fun v17 =>
      some (.inl (v17, c14)))))
      else none) n (0, c8))
  (fun x19 : cS =>
    Option.bind (whl (R := (cS)) (fun s21 : Int32 × cS =>
      if 96 ≤ s21.1 then
        some (.inr s21.2)
      else
        if ib s21.1 96 then
        if ib s21.1 96 then
        lt (pL s21.2 166 (ix s21.1) ((((s21.2.1 16 (ix s21.1)) : Int32).toInt64 &&& 4294967295) ||| (s21.2.2 159 14))) (fun c24 =>
        lt (s21.1 + 1 : Int32) (fun v27 =>
        some (.inl (v27, c24))))
        else none
        else none) n (0, x19))
    (fun x29 : cS =>
      lt (pI x29 159 10 0) (fun c30 =>
      Option.bind (d_301 n a1 c30) (fun r32 =>
      Option.bind (whl (R := (cS)) (fun s34 : Int32 × cS =>
        if ib a1 96 then
        if (s34.2.1 116 (ix a1)) ≤ s34.1 then
          some (.inr s34.2)
        else
          if ib s34.1 4 then
          if ib s34.1 192 then
          lt (pL s34.2 165 (ix s34.1) ((((s34.2.1 160 (ix s34.1)) : Int32).toInt64 &&& 4294967295) ||| (s34.2.2 159 14))) (fun c38 =>
          lt (s34.1 + 1 : Int32) (fun v41 =>
          some (.inl (v41, c38))))
          else none
          else none
        else none) n (0, r32))
      (fun x43 : cS =>
        some x43)))))))
  else none)
  else none)
set_option maxRecDepth 100000 in
set_option maxHeartbeats 4000000 in
theorem sp_300 {F Lo n : Nat} {a1 : Int32} {a2 : Int32} {c y : cS} {w : cW} {K : cS → Prop} {Q : ((Option Value) ⊕ String) → List va_E → Prop} (hw : rOK fm w) (hF : 3 ≤ F) (hLo : 68 ≤ Lo)  (h : wp (d_300 n a1 a2 c) K) (hQ : ∀ r, K r → Q (.inl none) (hq true r y w)) : rs (rt_P sc fm) 300 F Lo 0 [(0, .ref 159), (1, .int a1), (2, .int a2)] [] (hq true c y w) Q := by
  unfold d_300 at h
  obtain ⟨lv, elv⟩ : ∃ lv : rx_L, lv = [(0, .ref 159), (1, .int a1), (2, .int a2)] := ⟨_, rfl⟩
  rw [← elv]
  have l0 : rx_ld lv 0 = some (.ref 159) := by rw [elv]; rfl
  have l1 : rx_ld lv 1 = some (.int a1) := by rw [elv]; rfl
  have l2 : rx_ld lv 2 = some (.int a2) := by rw [elv]; rfl
  refine rs_aldn wi_300_0 l0 ?_
  refine rs_V wi_300_1 wc_300_67 rfl (dq_isa tf_159_0 wa_11_48) (Nat.le_trans (by decide) hF) (ml_le wm_48 (Nat.le_trans (by decide) hLo)) rfl (sp_48 hw (Nat.le_trans (by decide : 2 ≤ 3 - 1) (Nat.sub_le_sub_right hF 1)) (ml_sub wm_48 (Nat.le_trans (by decide : 46 ≤ 68 - 20) (Nat.sub_le_sub_right hLo 20))) (wp_bind h) (fun r1 h => rs_back0 ?_))
  refine rs_aldn wi_300_4 l0 ?_
  refine dq_gr wi_300_5 wf_300_18 tf_159_6 ?_
  refine rs_pure wi_300_8 rfl ?_
  refine rs_topi (v := 0) (by decide) ?_
  refine rs_pure wi_300_9 rfl ?_
  refine rs_topi (v := 1) (by decide) ?_
  obtain ⟨g2, h⟩ := wp_gd h
  obtain ⟨c3, e4, h⟩ := wp_lt h
  refine dq_iast wi_300_10 t_162 g2 e4 ?_
  refine rs_aldn wi_300_11 l0 ?_
  refine rs_ildn wi_300_12 l2 ?_
  obtain ⟨g5, h⟩ := wp_gd h
  obtain ⟨c6, e7, h⟩ := wp_lt h
  refine dq_pi wi_300_13 wp_300_70 tf_159_12 (nb_n g5) (nb_f g5) e7 ?_
  refine rs_aldn wi_300_16 l0 ?_
  refine rs_pure wi_300_17 rfl ?_
  refine rs_topl (v := 0) (by decide) ?_
  obtain ⟨c8, e9, h⟩ := wp_lt h
  refine dq_pl wi_300_18 wp_300_74 tf_159_14 rfl rfl e9 ?_
  refine rs_pure wi_300_21 rfl ?_
  refine rs_topi (v := 0) (by decide) ?_
  refine dl_istn wi_300_22 rfl (fun lv l3 t10 => ?_)
  have l0 := t10 _ _ (by decide) (Or.inl rfl) l0
  have l1 := t10 _ _ (by decide) (Or.inl rfl) l1
  refine whl_ex (A := fun s11 : Int32 × cS => ∀ lv, rx_ld lv 0 = some (.ref 159) → rx_ld lv 1 = some (.int a1) → rx_ld lv 3 = some (.int s11.1) → rs (rt_P sc fm) 300 F Lo 23 lv [] (hq true s11.2 y w) Q) (B := (fun x19 : cS => ∀ lv, rx_ld lv 0 = some (.ref 159) → rx_ld lv 1 = some (.int a1) → rs (rt_P sc fm) 300 F Lo 67 lv [] (hq true x19 y w) Q)) ?_ ?_ _ _ (wp_bind h) _ l0 l1 l3
  · intro s11 h lv l0 l1 l3
    refine rs_ildn wi_300_23 l3 ?_
    refine rs_aldn wi_300_24 l0 ?_
    refine dq_gr wi_300_25 wf_300_34 tf_159_0 ?_
    refine dq_gi wi_300_28 wf_300_78 tf_7_2 ?_
    refine rs_icge (tg := 67) wi_300_31 ⟨by decide, by decide⟩ (fun q => ?_) (fun q => ?_)
    ·
      have h := wp_pos h q
      exact h _ l0 l1
    ·
      have h := wp_neg h q
      refine rs_aldn wi_300_34 l0 ?_
      refine rs_aldn wi_300_35 l0 ?_
      refine dq_gl wi_300_36 wf_300_74 tf_159_14 ?_
      refine rs_pure wi_300_39 rfl ?_
      refine rs_topi (v := 8) (by decide) ?_
      refine rs_ildn wi_300_41 l3 ?_
      refine rs_pure wi_300_42 rfl ?_
      refine rs_aldn wi_300_43 l0 ?_
      refine dq_gr wi_300_44 wf_300_34 tf_159_0 ?_
      refine dq_gr wi_300_47 wf_300_83 tf_7_1 ?_
      refine rs_ildn wi_300_50 l3 ?_
      obtain ⟨g12, h⟩ := wp_gd h
      refine dq_aald wi_300_51 (by decide) t_8 g12 (hw.1 _ (ib_lt g12)) ?_
      refine dq_gi wi_300_52 wf_300_87 (fO_3 (ib_lt g12)) ?_
      refine rs_SN wi_300_55 wc_300_92 rfl (Nat.le_trans (by decide) hF) (ml_le wm_356 (Nat.le_trans (by decide) hLo)) rfl (sp_356 (Nat.le_trans (by decide : 0 ≤ 3 - 1) (Nat.sub_le_sub_right hF 1)) (ml_sub wm_356 (Nat.le_trans (by decide : 0 ≤ 68 - 23) (Nat.sub_le_sub_right hLo 23))) (wp_bind h) (fun v13 h => rs_back1 ?_))
      obtain ⟨c14, e15, h⟩ := wp_lt h
      refine dq_pl wi_300_58 wp_300_74 tf_159_14 rfl rfl e15 ?_
      obtain ⟨v17, e18, h⟩ := wp_lt h
      refine dl_inc wi_300_61 l3 rfl e18 (fun lv l3 t16 => ?_)
      have l0 := t16 _ _ (by decide) (Or.inl rfl) l0
      have l1 := t16 _ _ (by decide) (Or.inl rfl) l1
      refine rs_goto (tg := 23) wi_300_64 ⟨by decide, by decide⟩ ?_
      exact h _ l0 l1 l3
  ·
    intro x19 h lv l0 l1
    refine rs_pure wi_300_67 rfl ?_
    refine rs_topi (v := 0) (by decide) ?_
    refine dl_istn wi_300_68 rfl (fun lv l3 t20 => ?_)
    have l0 := t20 _ _ (by decide) (Or.inl rfl) l0
    have l1 := t20 _ _ (by decide) (Or.inl rfl) l1
    refine whl_ex (A := fun s21 : Int32 × cS => ∀ lv, rx_ld lv 0 = some (.ref 159) → rx_ld lv 1 = some (.int a1) → rx_ld lv 3 = some (.int s21.1) → rs (rt_P sc fm) 300 F Lo 69 lv [] (hq true s21.2 y w) Q) (B := (fun x29 : cS => ∀ lv, rx_ld lv 0 = some (.ref 159) → rx_ld lv 1 = some (.int a1) → rs (rt_P sc fm) 300 F Lo 109 lv [] (hq true x29 y w) Q)) ?_ ?_ _ _ (wp_bind h) _ l0 l1 l3
    · intro s21 h lv l0 l1 l3
      refine rs_ildn wi_300_69 l3 ?_
      refine rs_aldn wi_300_70 l0 ?_
      refine dq_gr wi_300_71 wf_300_31 tf_159_11 ?_
      refine dq_alen wi_300_74 (by decide) t_166 ?_
      refine rs_topi (v := 96) (by decide) ?_
      refine rs_icge (tg := 109) wi_300_75 ⟨by decide, by decide⟩ (fun q => ?_) (fun q => ?_)
      ·
        have h := wp_pos h q
        exact h _ l0 l1
      ·
        have h := wp_neg h q
        refine rs_aldn wi_300_78 l0 ?_
        refine dq_gr wi_300_79 wf_300_31 tf_159_11 ?_
        refine rs_ildn wi_300_82 l3 ?_
        refine rs_aldn wi_300_83 l0 ?_
        refine dq_gr wi_300_84 wf_300_34 tf_159_0 ?_
        refine dq_gr wi_300_87 wf_300_96 tf_7_13 ?_
        refine rs_ildn wi_300_90 l3 ?_
        obtain ⟨g22, h⟩ := wp_gd h
        refine dq_iald wi_300_91 t_16 g22 ?_
        refine rs_pure wi_300_92 rfl ?_
        refine rs_ldcl wi_300_93 wk_300_65 ?_
        refine rs_pure wi_300_96 rfl ?_
        refine rs_aldn wi_300_97 l0 ?_
        refine dq_gl wi_300_98 wf_300_74 tf_159_14 ?_
        refine rs_pure wi_300_101 rfl ?_
        obtain ⟨g23, h⟩ := wp_gd h
        obtain ⟨c24, e25, h⟩ := wp_lt h
        refine dq_last wi_300_102 t_166 g23 e25 ?_
        obtain ⟨v27, e28, h⟩ := wp_lt h
        refine dl_inc wi_300_103 l3 rfl e28 (fun lv l3 t26 => ?_)
        have l0 := t26 _ _ (by decide) (Or.inl rfl) l0
        have l1 := t26 _ _ (by decide) (Or.inl rfl) l1
        refine rs_goto (tg := 69) wi_300_106 ⟨by decide, by decide⟩ ?_
        exact h _ l0 l1 l3
    ·
      intro x29 h lv l0 l1
      refine rs_aldn wi_300_109 l0 ?_
      refine rs_pure wi_300_110 rfl ?_
      refine rs_topi (v := 0) (by decide) ?_
      obtain ⟨c30, e31, h⟩ := wp_lt h
      refine dq_pi wi_300_111 wp_300_99 tf_159_10 rfl rfl e31 ?_
      refine rs_aldn wi_300_114 l0 ?_
      refine rs_ildn wi_300_115 l1 ?_
      refine rs_V wi_300_116 wc_300_102 rfl (dq_isa tf_159_0 wa_11_301) (Nat.le_trans (by decide) hF) (ml_le wm_301 (Nat.le_trans (by decide) hLo)) rfl (sp_301 hw (Nat.le_trans (by decide : 2 ≤ 3 - 1) (Nat.sub_le_sub_right hF 1)) (ml_sub wm_301 (Nat.le_trans (by decide : 47 ≤ 68 - 21) (Nat.sub_le_sub_right hLo 21))) (wp_bind h) (fun r32 h => rs_back0 ?_))
      refine rs_pure wi_300_119 rfl ?_
      refine rs_topi (v := 0) (by decide) ?_
      refine dl_istn wi_300_120 rfl (fun lv l3 t33 => ?_)
      have l0 := t33 _ _ (by decide) (Or.inl rfl) l0
      have l1 := t33 _ _ (by decide) (Or.inl rfl) l1
      refine whl_ex (A := fun s34 : Int32 × cS => ∀ lv, rx_ld lv 0 = some (.ref 159) → rx_ld lv 1 = some (.int a1) → rx_ld lv 3 = some (.int s34.1) → rs (rt_P sc fm) 300 F Lo 121 lv [] (hq true s34.2 y w) Q) (B := (fun x43 : cS => ∀ lv, rs (rt_P sc fm) 300 F Lo 162 lv [] (hq true x43 y w) Q)) ?_ ?_ _ _ (wp_bind h) _ l0 l1 l3
      · intro s34 h lv l0 l1 l3
        refine rs_ildn wi_300_121 l3 ?_
        refine rs_aldn wi_300_122 l0 ?_
        refine dq_gr wi_300_123 wf_300_38 tf_159_1 ?_
        refine dq_gr wi_300_126 wf_300_106 tf_114_2 ?_
        refine rs_ildn wi_300_129 l1 ?_
        obtain ⟨g35, h⟩ := wp_gd h
        refine dq_iald wi_300_130 t_116 g35 ?_
        refine rs_icge (tg := 162) wi_300_131 ⟨by decide, by decide⟩ (fun q => ?_) (fun q => ?_)
        ·
          have h := wp_pos h q
          exact h _
        ·
          have h := wp_neg h q
          refine rs_aldn wi_300_134 l0 ?_
          refine dq_gr wi_300_135 wf_300_27 tf_159_9 ?_
          refine rs_ildn wi_300_138 l3 ?_
          refine rs_aldn wi_300_139 l0 ?_
          refine dq_gr wi_300_140 wf_300_9 tf_159_3 ?_
          refine rs_ildn wi_300_143 l3 ?_
          obtain ⟨g36, h⟩ := wp_gd h
          refine dq_iald wi_300_144 t_160 g36 ?_
          refine rs_pure wi_300_145 rfl ?_
          refine rs_ldcl wi_300_146 wk_300_65 ?_
          refine rs_pure wi_300_149 rfl ?_
          refine rs_aldn wi_300_150 l0 ?_
          refine dq_gl wi_300_151 wf_300_74 tf_159_14 ?_
          refine rs_pure wi_300_154 rfl ?_
          obtain ⟨g37, h⟩ := wp_gd h
          obtain ⟨c38, e39, h⟩ := wp_lt h
          refine dq_last wi_300_155 t_165 g37 e39 ?_
          obtain ⟨v41, e42, h⟩ := wp_lt h
          refine dl_inc wi_300_156 l3 rfl e42 (fun lv l3 t40 => ?_)
          have l0 := t40 _ _ (by decide) (Or.inl rfl) l0
          have l1 := t40 _ _ (by decide) (Or.inl rfl) l1
          refine rs_goto (tg := 121) wi_300_159 ⟨by decide, by decide⟩ ?_
          exact h _ l0 l1 l3
      ·
        intro x43 h lv
        exact rs_vret wi_300_162 wr_300 (hQ x43 h)
theorem wa_11_300 : rz_cn 11 (rx_yn (rt_P sc fm) 300).cls = true := (by decide +kernel : rz_cn 11 (rt_yn 300).cls = true)
theorem wc_84_146 : rx_ct (rt_P sc fm) 84 146 = some (0, 21, 1) := (by decide +kernel : rt_ct 84 146 = some (0, 21, 1))
theorem wc_84_154 : rx_ct (rt_P sc fm) 84 154 = some (0, 22, 1) := (by decide +kernel : rt_ct 84 154 = some (0, 22, 1))
theorem wc_84_269 : rx_ct (rt_P sc fm) 84 269 = some (0, 188, 0) := (by decide +kernel : rt_ct 84 269 = some (0, 188, 0))
theorem wc_84_350 : rx_ct (rt_P sc fm) 84 350 = some (0, 300, 2) := (by decide +kernel : rt_ct 84 350 = some (0, 300, 2))
theorem wf_84_126 : rx_ft (rt_P sc fm) 84 126 = some (9, 0) := (by decide +kernel : rt_ft 84 126 = some (9, 0))
theorem wf_84_19 : rx_ft (rt_P sc fm) 84 19 = some (14, 1) := (by decide +kernel : rt_ft 84 19 = some (14, 1))
theorem wf_84_28 : rx_ft (rt_P sc fm) 84 28 = some (14, 2) := (by decide +kernel : rt_ft 84 28 = some (14, 2))
theorem wf_84_53 : rx_ft (rt_P sc fm) 84 53 = some (14, 5) := (by decide +kernel : rt_ft 84 53 = some (14, 5))
theorem wf_84_69 : rx_ft (rt_P sc fm) 84 69 = some (14, 7) := (by decide +kernel : rt_ft 84 69 = some (14, 7))
theorem wi_84_0 : ri (rt_P sc fm) 84 0 (.aload_n 0) (1) := ri_of (by decide +kernel) rfl
theorem wi_84_1 : ri (rt_P sc fm) 84 1 (.getfield 19) (4) := ri_of (by decide +kernel) rfl
theorem wi_84_21 : ri (rt_P sc fm) 84 21 (.aload_n 0) (22) := ri_of (by decide +kernel) rfl
theorem wi_84_22 : ri (rt_P sc fm) 84 22 (.getfield 28) (25) := ri_of (by decide +kernel) rfl
theorem wi_84_25 : ri (rt_P sc fm) 84 25 (.iload_n 1) (26) := ri_of (by decide +kernel) rfl
theorem wi_84_26 : ri (rt_P sc fm) 84 26 (.invokevirtual 146) (29) := ri_of (by decide +kernel) rfl
theorem wi_84_29 : ri (rt_P sc fm) 84 29 (.iconst 2) (30) := ri_of (by decide +kernel) rfl
theorem wi_84_30 : ri (rt_P sc fm) 84 30 (.if_icmp .eq 14) (33) := ri_of (by decide +kernel) rfl
theorem wi_84_4 : ri (rt_P sc fm) 84 4 (.getfield 126) (7) := ri_of (by decide +kernel) rfl
theorem wi_84_44 : ri (rt_P sc fm) 84 44 (.aload_n 0) (45) := ri_of (by decide +kernel) rfl
theorem wi_84_45 : ri (rt_P sc fm) 84 45 (.getfield 53) (48) := ri_of (by decide +kernel) rfl
theorem wi_84_48 : ri (rt_P sc fm) 84 48 (.invokevirtual 269) (51) := ri_of (by decide +kernel) rfl
theorem wi_84_51 : ri (rt_P sc fm) 84 51 (.aload_n 0) (52) := ri_of (by decide +kernel) rfl
theorem wi_84_52 : ri (rt_P sc fm) 84 52 (.getfield 69) (55) := ri_of (by decide +kernel) rfl
theorem wi_84_55 : ri (rt_P sc fm) 84 55 (.aload_n 0) (56) := ri_of (by decide +kernel) rfl
theorem wi_84_56 : ri (rt_P sc fm) 84 56 (.getfield 28) (59) := ri_of (by decide +kernel) rfl
theorem wi_84_59 : ri (rt_P sc fm) 84 59 (.iload_n 1) (60) := ri_of (by decide +kernel) rfl
theorem wi_84_60 : ri (rt_P sc fm) 84 60 (.invokevirtual 154) (63) := ri_of (by decide +kernel) rfl
theorem wi_84_63 : ri (rt_P sc fm) 84 63 (.iload_n 2) (64) := ri_of (by decide +kernel) rfl
theorem wi_84_64 : ri (rt_P sc fm) 84 64 (.invokevirtual 350) (67) := ri_of (by decide +kernel) rfl
theorem wi_84_67 : ri (rt_P sc fm) 84 67 (.return_) (68) := ri_of (by decide +kernel) rfl
theorem wi_84_7 : ri (rt_P sc fm) 84 7 (.ifCond .ne 14) (10) := ri_of (by decide +kernel) rfl
theorem wm_300 : rx_ml (rt_P sc fm) 300 = 4 := (by decide +kernel : rt_ml 300 = 4)
theorem wr_84 : rx_rt (rt_P sc fm) 84 = none := (by decide +kernel : rt_rt 84 = none)
theorem wx_84_10 : rx_xt (rt_P sc fm) 84 10 = some ("java/lang/IllegalStateException", 5, 82) := (by decide +kernel : rt_xt 84 10 = some ("java/lang/IllegalStateException", 5, 82))
theorem wx_84_33 : rx_xt (rt_P sc fm) 84 33 = some ("java/util/NoSuchElementException", 5, 82) := (by decide +kernel : rt_xt 84 33 = some ("java/util/NoSuchElementException", 5, 82))
/-- MarkHouse.begin(IZ)V -/
def d_84 (n : Nat) (a1 : Int32) (a2 : Int32) (c : cS) : Option ((cS) ⊕ (Nat × cS)) :=
  if (c.1 7 0) = 0 then
    some (.inr (1, c))
  else
    Option.bind (d_21 n a1 c) (fun v1 =>
    if v1 = 2 then
      Option.bind (d_188 n c) (fun r2 =>
      Option.bind (d_22 n a1) (fun v3 =>
      Option.bind (d_300 n v3 a2 r2) (fun r4 =>
      some (.inl r4))))
    else
      some (.inr (2, c)))
set_option maxRecDepth 100000 in
set_option maxHeartbeats 4000000 in
theorem sp_84 {F Lo n : Nat} {a1 : Int32} {a2 : Int32} {c y : cS} {w : cW} {K : (cS) ⊕ (Nat × cS) → Prop} {Q : ((Option Value) ⊕ String) → List va_E → Prop} (hw : rOK fm w) (hF : 8 ≤ F) (hLo : 177 ≤ Lo)  (h : wp (d_84 n a1 a2 c) K) (hQ : ∀ r, K (.inl r) → Q (.inl none) (hq true r y w)) (hT : ∀ r, K (.inr r) → Q (.inr (exn r.1)) (hq true r.2 y w)) : rs (rt_P sc fm) 84 F Lo 0 [(0, .ref 0), (1, .int a1), (2, .int a2)] [] (hq true c y w) Q := by
  unfold d_84 at h
  obtain ⟨lv, elv⟩ : ∃ lv : rx_L, lv = [(0, .ref 0), (1, .int a1), (2, .int a2)] := ⟨_, rfl⟩
  rw [← elv]
  have l0 : rx_ld lv 0 = some (.ref 0) := by rw [elv]; rfl
  have l1 : rx_ld lv 1 = some (.int a1) := by rw [elv]; rfl
  have l2 : rx_ld lv 2 = some (.int a2) := by rw [elv]; rfl
  refine rs_aldn wi_84_0 l0 ?_
  refine dq_gr wi_84_1 wf_84_19 tf_0_1 ?_
  refine dq_gi wi_84_4 wf_84_126 tf_7_0 ?_
  refine rs_ifne (tg := 21) wi_84_7 ⟨by decide, by decide⟩ (fun q => ?_) (fun q => ?_)
  ·
    have h := wp_neg h q
    refine rs_aldn wi_84_21 l0 ?_
    refine dq_gr wi_84_22 wf_84_28 tf_0_2 ?_
    refine rs_ildn wi_84_25 l1 ?_
    refine rs_V wi_84_26 wc_84_146 rfl (dq_isa tf_114_0 wa_2_21) (Nat.le_trans (by decide) hF) (ml_le wm_21 (Nat.le_trans (by decide) hLo)) rfl (sp_21 hw (Nat.le_trans (by decide : 1 ≤ 8 - 1) (Nat.sub_le_sub_right hF 1)) (ml_sub wm_21 (Nat.le_trans (by decide : 21 ≤ 177 - 23) (Nat.sub_le_sub_right hLo 23))) (wp_bind h) (fun v1 h => rs_back1 ?_))
    refine rs_pure wi_84_29 rfl ?_
    refine rs_topi (v := 2) (by decide) ?_
    refine rs_iceq (tg := 44) wi_84_30 ⟨by decide, by decide⟩ (fun q => ?_) (fun q => ?_)
    ·
      have h := wp_pos h q
      refine rs_aldn wi_84_44 l0 ?_
      refine dq_gr wi_84_45 wf_84_53 tf_0_5 ?_
      refine rs_V wi_84_48 wc_84_269 rfl (dq_isa tf_146_0 wa_4_188) (Nat.le_trans (by decide) hF) (ml_le wm_188 (Nat.le_trans (by decide) hLo)) rfl (sp_188 hw (Nat.le_trans (by decide : 7 ≤ 8 - 1) (Nat.sub_le_sub_right hF 1)) (ml_sub wm_188 (Nat.le_trans (by decide : 155 ≤ 177 - 22) (Nat.sub_le_sub_right hLo 22))) (wp_bind h) (fun r2 h => rs_back0 ?_))
      refine rs_aldn wi_84_51 l0 ?_
      refine dq_gr wi_84_52 wf_84_69 tf_0_7 ?_
      refine rs_aldn wi_84_55 l0 ?_
      refine dq_gr wi_84_56 wf_84_28 tf_0_2 ?_
      refine rs_ildn wi_84_59 l1 ?_
      refine rs_V wi_84_60 wc_84_154 rfl (dq_isa tf_114_0 wa_2_22) (Nat.le_trans (by decide) hF) (ml_le wm_22 (Nat.le_trans (by decide) hLo)) rfl (sp_22 (Nat.le_trans (by decide : 0 ≤ 8 - 1) (Nat.sub_le_sub_right hF 1)) (ml_sub wm_22 (Nat.le_trans (by decide : 0 ≤ 177 - 21) (Nat.sub_le_sub_right hLo 21))) (wp_bind h) (fun v3 h => rs_back1 ?_))
      refine rs_ildn wi_84_63 l2 ?_
      refine rs_V wi_84_64 wc_84_350 rfl (dq_isa tf_159_0 wa_11_300) (Nat.le_trans (by decide) hF) (ml_le wm_300 (Nat.le_trans (by decide) hLo)) rfl (sp_300 hw (Nat.le_trans (by decide : 3 ≤ 8 - 1) (Nat.sub_le_sub_right hF 1)) (ml_sub wm_300 (Nat.le_trans (by decide : 68 ≤ 177 - 23) (Nat.sub_le_sub_right hLo 23))) (wp_bind h) (fun r4 h => rs_back0 ?_))
      exact rs_vret wi_84_67 wr_84 (hQ r4 h)
    ·
      have h := wp_neg h q
      exact rs_throw wx_84_33 (Nat.le_trans (by decide) hF) (Nat.le_trans (by decide) hLo) (hT (2, c) h)
  ·
    have h := wp_pos h q
    exact rs_throw wx_84_10 (Nat.le_trans (by decide) hF) (Nat.le_trans (by decide) hLo) (hT (1, c) h)
theorem wc_305_154 : rx_ct (rt_P sc fm) 305 154 = some (11, 355, 2) := (by decide +kernel : rt_ct 305 154 = some (11, 355, 2))
theorem wc_305_158 : rx_ct (rt_P sc fm) 305 158 = some (0, 237, 2) := (by decide +kernel : rt_ct 305 158 = some (0, 237, 2))
theorem wf_305_34 : rx_ft (rt_P sc fm) 305 34 = some (11, 0) := (by decide +kernel : rt_ft 305 34 = some (11, 0))
theorem wf_305_83 : rx_ft (rt_P sc fm) 305 83 = some (9, 1) := (by decide +kernel : rt_ft 305 83 = some (9, 1))
theorem wi_305_0 : ri (rt_P sc fm) 305 0 (.aload_n 0) (1) := ri_of (by decide +kernel) rfl
theorem wi_305_1 : ri (rt_P sc fm) 305 1 (.getfield 34) (4) := ri_of (by decide +kernel) rfl
theorem wi_305_10 : ri (rt_P sc fm) 305 10 (.bipush 8) (12) := ri_of (by decide +kernel) rfl
theorem wi_305_12 : ri (rt_P sc fm) 305 12 (.iload_n 3) (13) := ri_of (by decide +kernel) rfl
theorem wi_305_13 : ri (rt_P sc fm) 305 13 (.iadd) (14) := ri_of (by decide +kernel) rfl
theorem wi_305_14 : ri (rt_P sc fm) 305 14 (.invokestatic 154) (17) := ri_of (by decide +kernel) rfl
theorem wi_305_17 : ri (rt_P sc fm) 305 17 (.iload 4) (19) := ri_of (by decide +kernel) rfl
theorem wi_305_19 : ri (rt_P sc fm) 305 19 (.invokevirtual 158) (22) := ri_of (by decide +kernel) rfl
theorem wi_305_22 : ri (rt_P sc fm) 305 22 (.ireturn) (23) := ri_of (by decide +kernel) rfl
theorem wi_305_4 : ri (rt_P sc fm) 305 4 (.getfield 83) (7) := ri_of (by decide +kernel) rfl
theorem wi_305_7 : ri (rt_P sc fm) 305 7 (.iload_n 3) (8) := ri_of (by decide +kernel) rfl
theorem wi_305_8 : ri (rt_P sc fm) 305 8 (.aaload) (9) := ri_of (by decide +kernel) rfl
theorem wi_305_9 : ri (rt_P sc fm) 305 9 (.lload_n 1) (10) := ri_of (by decide +kernel) rfl
theorem wr_305 : rx_rt (rt_P sc fm) 305 = (some FieldType.boolean) := (by decide +kernel : rt_rt 305 = (some FieldType.boolean))
/-- MarkHouse$Run.isLow(JII)Z -/
def d_305 (n : Nat) (a1 : Int64) (a3 : Int32) (a4 : Int32) (c : cS) : Option (Int32) :=
  if ib a3 4 then
  Option.bind (d_355 n a1 (8 + a3)) (fun v2 =>
  Option.bind (d_237 n (ix a3) v2 a4 c) (fun v3 =>
  if nb v3 then
  some v3
  else none))
  else none
set_option maxRecDepth 100000 in
set_option maxHeartbeats 4000000 in
theorem sp_305 {F Lo n : Nat} {a1 : Int64} {a3 : Int32} {a4 : Int32} {c y : cS} {w : cW} {K : Int32 → Prop} {Q : ((Option Value) ⊕ String) → List va_E → Prop} (hw : rOK fm w) (hF : 1 ≤ F) (hLo : 22 ≤ Lo)  (h : wp (d_305 n a1 a3 a4 c) K) (hQ : ∀ r, K r → Q (.inl (some (.int r))) (hq true c y w)) : rs (rt_P sc fm) 305 F Lo 0 [(0, .ref 159), (1, .long a1), (3, .int a3), (4, .int a4)] [] (hq true c y w) Q := by
  unfold d_305 at h
  obtain ⟨lv, elv⟩ : ∃ lv : rx_L, lv = [(0, .ref 159), (1, .long a1), (3, .int a3), (4, .int a4)] := ⟨_, rfl⟩
  rw [← elv]
  have l0 : rx_ld lv 0 = some (.ref 159) := by rw [elv]; rfl
  have l1 : rx_ld lv 1 = some (.long a1) := by rw [elv]; rfl
  have l3 : rx_ld lv 3 = some (.int a3) := by rw [elv]; rfl
  have l4 : rx_ld lv 4 = some (.int a4) := by rw [elv]; rfl
  refine rs_aldn wi_305_0 l0 ?_
  refine dq_gr wi_305_1 wf_305_34 tf_159_0 ?_
  refine dq_gr wi_305_4 wf_305_83 tf_7_1 ?_
  refine rs_ildn wi_305_7 l3 ?_
  obtain ⟨g1, h⟩ := wp_gd h
  refine dq_aald wi_305_8 (by decide) t_8 g1 (hw.1 _ (ib_lt g1)) ?_
  refine rs_lldn wi_305_9 l1 ?_
  refine rs_pure wi_305_10 rfl ?_
  refine rs_topi (v := 8) (by decide) ?_
  refine rs_ildn wi_305_12 l3 ?_
  refine rs_pure wi_305_13 rfl ?_
  refine rs_SN wi_305_14 wc_305_154 rfl (Nat.le_trans (by decide) hF) (ml_le wm_355 (Nat.le_trans (by decide) hLo)) rfl (sp_355 (Nat.le_trans (by decide : 0 ≤ 1 - 1) (Nat.sub_le_sub_right hF 1)) (ml_sub wm_355 (Nat.le_trans (by decide : 0 ≤ 22 - 22) (Nat.sub_le_sub_right hLo 22))) (wp_bind h) (fun v2 h => rs_back1 ?_))
  refine rs_ild wi_305_17 l4 ?_
  refine rs_V wi_305_19 wc_305_158 rfl (dq_isa (fO_0 (ib_lt g1)) wa_8_237) (Nat.le_trans (by decide) hF) (ml_le wm_237 (Nat.le_trans (by decide) hLo)) rfl (sp_237 hw (Nat.le_trans (by decide : 0 ≤ 1 - 1) (Nat.sub_le_sub_right hF 1)) (ml_sub wm_237 (Nat.le_trans (by decide : 0 ≤ 22 - 22) (Nat.sub_le_sub_right hLo 22))) (ib_lt g1) (wp_bind h) (fun v3 h => rs_back1 ?_))
  obtain ⟨g4, h⟩ := wp_gd h
  exact rs_iret wi_305_22 wr_305 (nb_n g4) (hQ v3 h)
theorem tf_159_2 : fo true 159 11 2 (.ref 146) := ⟨_, rfl, rfl, by decide, by decide⟩
theorem wa_11_305 : rz_cn 11 (rx_yn (rt_P sc fm) 305).cls = true := (by decide +kernel : rz_cn 11 (rt_yn 305).cls = true)
theorem wc_306_161 : rx_ct (rt_P sc fm) 306 161 = some (0, 169, 3) := (by decide +kernel : rt_ct 306 161 = some (0, 169, 3))
theorem wc_306_165 : rx_ct (rt_P sc fm) 306 165 = some (0, 190, 2) := (by decide +kernel : rt_ct 306 165 = some (0, 190, 2))
theorem wc_306_171 : rx_ct (rt_P sc fm) 306 171 = some (0, 170, 2) := (by decide +kernel : rt_ct 306 171 = some (0, 170, 2))
theorem wc_306_174 : rx_ct (rt_P sc fm) 306 174 = some (0, 305, 3) := (by decide +kernel : rt_ct 306 174 = some (0, 305, 3))
theorem wf_306_21 : rx_ft (rt_P sc fm) 306 21 = some (11, 7) := (by decide +kernel : rt_ft 306 21 = some (11, 7))
theorem wf_306_27 : rx_ft (rt_P sc fm) 306 27 = some (11, 9) := (by decide +kernel : rt_ft 306 27 = some (11, 9))
theorem wf_306_38 : rx_ft (rt_P sc fm) 306 38 = some (11, 1) := (by decide +kernel : rt_ft 306 38 = some (11, 1))
theorem wf_306_42 : rx_ft (rt_P sc fm) 306 42 = some (11, 2) := (by decide +kernel : rt_ft 306 42 = some (11, 2))
theorem wi_306_0 : ri (rt_P sc fm) 306 0 (.aload_n 0) (1) := ri_of (by decide +kernel) rfl
theorem wi_306_1 : ri (rt_P sc fm) 306 1 (.getfield 42) (4) := ri_of (by decide +kernel) rfl
theorem wi_306_12 : ri (rt_P sc fm) 306 12 (.iload_n 1) (13) := ri_of (by decide +kernel) rfl
theorem wi_306_13 : ri (rt_P sc fm) 306 13 (.iaload) (14) := ri_of (by decide +kernel) rfl
theorem wi_306_14 : ri (rt_P sc fm) 306 14 (.iload_n 2) (15) := ri_of (by decide +kernel) rfl
theorem wi_306_15 : ri (rt_P sc fm) 306 15 (.iload_n 3) (16) := ri_of (by decide +kernel) rfl
theorem wi_306_16 : ri (rt_P sc fm) 306 16 (.invokevirtual 161) (19) := ri_of (by decide +kernel) rfl
theorem wi_306_19 : ri (rt_P sc fm) 306 19 (.iload 4) (21) := ri_of (by decide +kernel) rfl
theorem wi_306_21 : ri (rt_P sc fm) 306 21 (.invokevirtual 165) (24) := ri_of (by decide +kernel) rfl
theorem wi_306_24 : ri (rt_P sc fm) 306 24 (.istore 5) (26) := ri_of (by decide +kernel) rfl
theorem wi_306_26 : ri (rt_P sc fm) 306 26 (.aload_n 0) (27) := ri_of (by decide +kernel) rfl
theorem wi_306_27 : ri (rt_P sc fm) 306 27 (.aload_n 0) (28) := ri_of (by decide +kernel) rfl
theorem wi_306_28 : ri (rt_P sc fm) 306 28 (.getfield 27) (31) := ri_of (by decide +kernel) rfl
theorem wi_306_31 : ri (rt_P sc fm) 306 31 (.iload_n 1) (32) := ri_of (by decide +kernel) rfl
theorem wi_306_32 : ri (rt_P sc fm) 306 32 (.bipush 16) (34) := ri_of (by decide +kernel) rfl
theorem wi_306_34 : ri (rt_P sc fm) 306 34 (.imul) (35) := ri_of (by decide +kernel) rfl
theorem wi_306_35 : ri (rt_P sc fm) 306 35 (.aload_n 0) (36) := ri_of (by decide +kernel) rfl
theorem wi_306_36 : ri (rt_P sc fm) 306 36 (.getfield 38) (39) := ri_of (by decide +kernel) rfl
theorem wi_306_39 : ri (rt_P sc fm) 306 39 (.iload_n 2) (40) := ri_of (by decide +kernel) rfl
theorem wi_306_4 : ri (rt_P sc fm) 306 4 (.aload_n 0) (5) := ri_of (by decide +kernel) rfl
theorem wi_306_40 : ri (rt_P sc fm) 306 40 (.iload_n 3) (41) := ri_of (by decide +kernel) rfl
theorem wi_306_41 : ri (rt_P sc fm) 306 41 (.invokevirtual 171) (44) := ri_of (by decide +kernel) rfl
theorem wi_306_44 : ri (rt_P sc fm) 306 44 (.iadd) (45) := ri_of (by decide +kernel) rfl
theorem wi_306_45 : ri (rt_P sc fm) 306 45 (.laload) (46) := ri_of (by decide +kernel) rfl
theorem wi_306_46 : ri (rt_P sc fm) 306 46 (.iload 4) (48) := ri_of (by decide +kernel) rfl
theorem wi_306_48 : ri (rt_P sc fm) 306 48 (.iload 5) (50) := ri_of (by decide +kernel) rfl
theorem wi_306_5 : ri (rt_P sc fm) 306 5 (.getfield 38) (8) := ri_of (by decide +kernel) rfl
theorem wi_306_50 : ri (rt_P sc fm) 306 50 (.invokevirtual 174) (53) := ri_of (by decide +kernel) rfl
theorem wi_306_53 : ri (rt_P sc fm) 306 53 (.ireturn) (54) := ri_of (by decide +kernel) rfl
theorem wi_306_8 : ri (rt_P sc fm) 306 8 (.aload_n 0) (9) := ri_of (by decide +kernel) rfl
theorem wi_306_9 : ri (rt_P sc fm) 306 9 (.getfield 21) (12) := ri_of (by decide +kernel) rfl
theorem wm_305 : rx_ml (rt_P sc fm) 305 = 5 := (by decide +kernel : rt_ml 305 = 5)
theorem wr_306 : rx_rt (rt_P sc fm) 306 = (some FieldType.boolean) := (by decide +kernel : rt_rt 306 = (some FieldType.boolean))
/-- MarkHouse$Run.keepsMark(IIII)Z -/
def d_306 (n : Nat) (a1 : Int32) (a2 : Int32) (a3 : Int32) (a4 : Int32) (c : cS) : Option (Int32) :=
  if ib a1 12 then
  Option.bind (d_169 n (c.1 163 (ix a1)) a2 a3 c) (fun v2 =>
  Option.bind (d_190 n v2 a4 c) (fun v3 =>
  Option.bind (d_170 n a2 a3 c) (fun v5 =>
  if ib ((a1 * 16) + v5) 192 then
  Option.bind (d_305 n (c.2 165 (ix ((a1 * 16) + v5))) a4 v3 c) (fun v7 =>
  if nb v7 then
  some v7
  else none)
  else none)))
  else none
set_option maxRecDepth 100000 in
set_option maxHeartbeats 4000000 in
theorem sp_306 {F Lo n : Nat} {a1 : Int32} {a2 : Int32} {a3 : Int32} {a4 : Int32} {c y : cS} {w : cW} {K : Int32 → Prop} {Q : ((Option Value) ⊕ String) → List va_E → Prop} (hw : rOK fm w) (hF : 2 ≤ F) (hLo : 46 ≤ Lo)  (h : wp (d_306 n a1 a2 a3 a4 c) K) (hQ : ∀ r, K r → Q (.inl (some (.int r))) (hq true c y w)) : rs (rt_P sc fm) 306 F Lo 0 [(0, .ref 159), (1, .int a1), (2, .int a2), (3, .int a3), (4, .int a4)] [] (hq true c y w) Q := by
  unfold d_306 at h
  obtain ⟨lv, elv⟩ : ∃ lv : rx_L, lv = [(0, .ref 159), (1, .int a1), (2, .int a2), (3, .int a3), (4, .int a4)] := ⟨_, rfl⟩
  rw [← elv]
  have l0 : rx_ld lv 0 = some (.ref 159) := by rw [elv]; rfl
  have l1 : rx_ld lv 1 = some (.int a1) := by rw [elv]; rfl
  have l2 : rx_ld lv 2 = some (.int a2) := by rw [elv]; rfl
  have l3 : rx_ld lv 3 = some (.int a3) := by rw [elv]; rfl
  have l4 : rx_ld lv 4 = some (.int a4) := by rw [elv]; rfl
  refine rs_aldn wi_306_0 l0 ?_
  refine dq_gr wi_306_1 wf_306_42 tf_159_2 ?_
  refine rs_aldn wi_306_4 l0 ?_
  refine dq_gr wi_306_5 wf_306_38 tf_159_1 ?_
  refine rs_aldn wi_306_8 l0 ?_
  refine dq_gr wi_306_9 wf_306_21 tf_159_7 ?_
  refine rs_ildn wi_306_12 l1 ?_
  obtain ⟨g1, h⟩ := wp_gd h
  refine dq_iald wi_306_13 t_163 g1 ?_
  refine rs_ildn wi_306_14 l2 ?_
  refine rs_ildn wi_306_15 l3 ?_
  refine rs_V wi_306_16 wc_306_161 rfl (dq_isa tf_114_0 wa_2_169) (Nat.le_trans (by decide) hF) (ml_le wm_169 (Nat.le_trans (by decide) hLo)) rfl (sp_169 hw (Nat.le_trans (by decide : 1 ≤ 2 - 1) (Nat.sub_le_sub_right hF 1)) (ml_sub wm_169 (Nat.le_trans (by decide : 21 ≤ 46 - 23) (Nat.sub_le_sub_right hLo 23))) (wp_bind h) (fun v2 h => rs_back1 ?_))
  refine rs_ild wi_306_19 l4 ?_
  refine rs_V wi_306_21 wc_306_165 rfl (dq_isa tf_146_0 wa_4_190) (Nat.le_trans (by decide) hF) (ml_le wm_190 (Nat.le_trans (by decide) hLo)) rfl (sp_190 hw (Nat.le_trans (by decide : 0 ≤ 2 - 1) (Nat.sub_le_sub_right hF 1)) (ml_sub wm_190 (Nat.le_trans (by decide : 0 ≤ 46 - 23) (Nat.sub_le_sub_right hLo 23))) (wp_bind h) (fun v3 h => rs_back1 ?_))
  refine dl_ist wi_306_24 rfl (fun lv l5 t4 => ?_)
  have l0 := t4 _ _ (by decide) (Or.inl rfl) l0
  have l1 := t4 _ _ (by decide) (Or.inl rfl) l1
  have l2 := t4 _ _ (by decide) (Or.inl rfl) l2
  have l3 := t4 _ _ (by decide) (Or.inl rfl) l3
  have l4 := t4 _ _ (by decide) (Or.inl rfl) l4
  refine rs_aldn wi_306_26 l0 ?_
  refine rs_aldn wi_306_27 l0 ?_
  refine dq_gr wi_306_28 wf_306_27 tf_159_9 ?_
  refine rs_ildn wi_306_31 l1 ?_
  refine rs_pure wi_306_32 rfl ?_
  refine rs_topi (v := 16) (by decide) ?_
  refine rs_pure wi_306_34 rfl ?_
  refine rs_aldn wi_306_35 l0 ?_
  refine dq_gr wi_306_36 wf_306_38 tf_159_1 ?_
  refine rs_ildn wi_306_39 l2 ?_
  refine rs_ildn wi_306_40 l3 ?_
  refine rs_V wi_306_41 wc_306_171 rfl (dq_isa tf_114_0 wa_2_170) (Nat.le_trans (by decide) hF) (ml_le wm_170 (Nat.le_trans (by decide) hLo)) rfl (sp_170 hw (Nat.le_trans (by decide : 1 ≤ 2 - 1) (Nat.sub_le_sub_right hF 1)) (ml_sub wm_170 (Nat.le_trans (by decide : 21 ≤ 46 - 22) (Nat.sub_le_sub_right hLo 22))) (wp_bind h) (fun v5 h => rs_back1 ?_))
  refine rs_pure wi_306_44 rfl ?_
  obtain ⟨g6, h⟩ := wp_gd h
  refine dq_lald wi_306_45 t_165 g6 ?_
  refine rs_ild wi_306_46 l4 ?_
  refine rs_ild wi_306_48 l5 ?_
  refine rs_V wi_306_50 wc_306_174 rfl (dq_isa tf_159_0 wa_11_305) (Nat.le_trans (by decide) hF) (ml_le wm_305 (Nat.le_trans (by decide) hLo)) rfl (sp_305 hw (Nat.le_trans (by decide : 1 ≤ 2 - 1) (Nat.sub_le_sub_right hF 1)) (ml_sub wm_305 (Nat.le_trans (by decide : 22 ≤ 46 - 24) (Nat.sub_le_sub_right hLo 24))) (wp_bind h) (fun v7 h => rs_back1 ?_))
  obtain ⟨g8, h⟩ := wp_gd h
  exact rs_iret wi_306_53 wr_306 (nb_n g8) (hQ v7 h)
theorem wa_11_306 : rz_cn 11 (rx_yn (rt_P sc fm) 306).cls = true := (by decide +kernel : rz_cn 11 (rt_yn 306).cls = true)
theorem wc_307_181 : rx_ct (rt_P sc fm) 307 181 = some (0, 306, 4) := (by decide +kernel : rt_ct 307 181 = some (0, 306, 4))
theorem wf_307_178 : rx_ft (rt_P sc fm) 307 178 = some (2, 13) := (by decide +kernel : rt_ft 307 178 = some (2, 13))
theorem wf_307_18 : rx_ft (rt_P sc fm) 307 18 = some (11, 6) := (by decide +kernel : rt_ft 307 18 = some (11, 6))
theorem wf_307_38 : rx_ft (rt_P sc fm) 307 38 = some (11, 1) := (by decide +kernel : rt_ft 307 38 = some (11, 1))
theorem wi_307_0 : ri (rt_P sc fm) 307 0 (.iconst 0) (1) := ri_of (by decide +kernel) rfl
theorem wi_307_1 : ri (rt_P sc fm) 307 1 (.istore_n 3) (2) := ri_of (by decide +kernel) rfl
theorem wi_307_12 : ri (rt_P sc fm) 307 12 (.getfield 178) (15) := ri_of (by decide +kernel) rfl
theorem wi_307_15 : ri (rt_P sc fm) 307 15 (.iload_n 2) (16) := ri_of (by decide +kernel) rfl
theorem wi_307_16 : ri (rt_P sc fm) 307 16 (.iaload) (17) := ri_of (by decide +kernel) rfl
theorem wi_307_17 : ri (rt_P sc fm) 307 17 (.iload_n 3) (18) := ri_of (by decide +kernel) rfl
theorem wi_307_18 : ri (rt_P sc fm) 307 18 (.ishr) (19) := ri_of (by decide +kernel) rfl
theorem wi_307_19 : ri (rt_P sc fm) 307 19 (.iconst 1) (20) := ri_of (by decide +kernel) rfl
theorem wi_307_2 : ri (rt_P sc fm) 307 2 (.iload_n 3) (3) := ri_of (by decide +kernel) rfl
theorem wi_307_20 : ri (rt_P sc fm) 307 20 (.iand) (21) := ri_of (by decide +kernel) rfl
theorem wi_307_21 : ri (rt_P sc fm) 307 21 (.ifCond .eq 31) (24) := ri_of (by decide +kernel) rfl
theorem wi_307_24 : ri (rt_P sc fm) 307 24 (.aload_n 0) (25) := ri_of (by decide +kernel) rfl
theorem wi_307_25 : ri (rt_P sc fm) 307 25 (.getfield 18) (28) := ri_of (by decide +kernel) rfl
theorem wi_307_28 : ri (rt_P sc fm) 307 28 (.bipush 11) (30) := ri_of (by decide +kernel) rfl
theorem wi_307_3 : ri (rt_P sc fm) 307 3 (.bipush 16) (5) := ri_of (by decide +kernel) rfl
theorem wi_307_30 : ri (rt_P sc fm) 307 30 (.dup2) (31) := ri_of (by decide +kernel) rfl
theorem wi_307_31 : ri (rt_P sc fm) 307 31 (.iaload) (32) := ri_of (by decide +kernel) rfl
theorem wi_307_32 : ri (rt_P sc fm) 307 32 (.iconst 1) (33) := ri_of (by decide +kernel) rfl
theorem wi_307_33 : ri (rt_P sc fm) 307 33 (.iadd) (34) := ri_of (by decide +kernel) rfl
theorem wi_307_34 : ri (rt_P sc fm) 307 34 (.iastore) (35) := ri_of (by decide +kernel) rfl
theorem wi_307_35 : ri (rt_P sc fm) 307 35 (.aload_n 0) (36) := ri_of (by decide +kernel) rfl
theorem wi_307_36 : ri (rt_P sc fm) 307 36 (.iload_n 1) (37) := ri_of (by decide +kernel) rfl
theorem wi_307_37 : ri (rt_P sc fm) 307 37 (.iload_n 2) (38) := ri_of (by decide +kernel) rfl
theorem wi_307_38 : ri (rt_P sc fm) 307 38 (.iload_n 3) (39) := ri_of (by decide +kernel) rfl
theorem wi_307_39 : ri (rt_P sc fm) 307 39 (.iconst 4) (40) := ri_of (by decide +kernel) rfl
theorem wi_307_40 : ri (rt_P sc fm) 307 40 (.irem) (41) := ri_of (by decide +kernel) rfl
theorem wi_307_41 : ri (rt_P sc fm) 307 41 (.iload_n 3) (42) := ri_of (by decide +kernel) rfl
theorem wi_307_42 : ri (rt_P sc fm) 307 42 (.iconst 4) (43) := ri_of (by decide +kernel) rfl
theorem wi_307_43 : ri (rt_P sc fm) 307 43 (.idiv) (44) := ri_of (by decide +kernel) rfl
theorem wi_307_44 : ri (rt_P sc fm) 307 44 (.invokevirtual 181) (47) := ri_of (by decide +kernel) rfl
theorem wi_307_47 : ri (rt_P sc fm) 307 47 (.ifCond .ne 5) (50) := ri_of (by decide +kernel) rfl
theorem wi_307_5 : ri (rt_P sc fm) 307 5 (.if_icmp .ge 53) (8) := ri_of (by decide +kernel) rfl
theorem wi_307_50 : ri (rt_P sc fm) 307 50 (.iconst 0) (51) := ri_of (by decide +kernel) rfl
theorem wi_307_51 : ri (rt_P sc fm) 307 51 (.ireturn) (52) := ri_of (by decide +kernel) rfl
theorem wi_307_52 : ri (rt_P sc fm) 307 52 (.iinc 3 1) (55) := ri_of (by decide +kernel) rfl
theorem wi_307_55 : ri (rt_P sc fm) 307 55 (.goto (-53)) (58) := ri_of (by decide +kernel) rfl
theorem wi_307_58 : ri (rt_P sc fm) 307 58 (.iconst 1) (59) := ri_of (by decide +kernel) rfl
theorem wi_307_59 : ri (rt_P sc fm) 307 59 (.ireturn) (60) := ri_of (by decide +kernel) rfl
theorem wi_307_8 : ri (rt_P sc fm) 307 8 (.aload_n 0) (9) := ri_of (by decide +kernel) rfl
theorem wi_307_9 : ri (rt_P sc fm) 307 9 (.getfield 38) (12) := ri_of (by decide +kernel) rfl
theorem wm_306 : rx_ml (rt_P sc fm) 306 = 6 := (by decide +kernel : rt_ml 306 = 6)
theorem wr_307 : rx_rt (rt_P sc fm) 307 = (some FieldType.boolean) := (by decide +kernel : rt_rt 307 = (some FieldType.boolean))
/-- MarkHouse$Run.passesChecks(II)Z -/
def d_307 (n : Nat) (a1 : Int32) (a2 : Int32) (c : cS) : Option (Int32 × cS) :=
  Option.bind (whl (R := (cS) ⊕ (cS)) (fun s2 : Int32 × cS =>
    if 16 ≤ s2.1 then
      some (.inr (.inl s2.2))
    else
      if ib a2 1024 then
      jn (fun p4 : cS =>
        lt (s2.1 + 1 : Int32) (fun v6 =>
        some (.inl (v6, p4))))
      (fun j52 =>
      if (((s2.2.1 126 (ix a2)) >>> (s2.1 &&& 31)) &&& 1) = 0 then
        j52 s2.2
      else
        if ib 11 12 then
        if ib 11 12 then
        lt (pI s2.2 162 (ix 11) ((s2.2.1 162 (ix 11)) + 1)) (fun c10 =>
        Option.bind (d_306 n a1 a2 (s2.1 - s2.1 / 4 * 4) (s2.1 / 4) c10) (fun v12 =>
        if v12 = 0 then
          some (.inr (.inr c10))
        else
          j52 c10))
        else none
        else none)
      else none) n (0, c))
  (Sum.elim (fun x13 : cS =>
    some (1, x13))
  (fun x14 : cS =>
    some (0, x14)))
set_option maxRecDepth 100000 in
set_option maxHeartbeats 4000000 in
theorem sp_307 {F Lo n : Nat} {a1 : Int32} {a2 : Int32} {c y : cS} {w : cW} {K : Int32 × cS → Prop} {Q : ((Option Value) ⊕ String) → List va_E → Prop} (hw : rOK fm w) (hF : 3 ≤ F) (hLo : 71 ≤ Lo)  (h : wp (d_307 n a1 a2 c) K) (hQ : ∀ r, K r → Q (.inl (some (.int r.1))) (hq true r.2 y w)) : rs (rt_P sc fm) 307 F Lo 0 [(0, .ref 159), (1, .int a1), (2, .int a2)] [] (hq true c y w) Q := by
  unfold d_307 at h
  obtain ⟨lv, elv⟩ : ∃ lv : rx_L, lv = [(0, .ref 159), (1, .int a1), (2, .int a2)] := ⟨_, rfl⟩
  rw [← elv]
  have l0 : rx_ld lv 0 = some (.ref 159) := by rw [elv]; rfl
  have l1 : rx_ld lv 1 = some (.int a1) := by rw [elv]; rfl
  have l2 : rx_ld lv 2 = some (.int a2) := by rw [elv]; rfl
  refine rs_pure wi_307_0 rfl ?_
  refine rs_topi (v := 0) (by decide) ?_
  refine dl_istn wi_307_1 rfl (fun lv l3 t1 => ?_)
  have l0 := t1 _ _ (by decide) (Or.inl rfl) l0
  have l1 := t1 _ _ (by decide) (Or.inl rfl) l1
  have l2 := t1 _ _ (by decide) (Or.inl rfl) l2
  refine whl_ex (A := fun s2 : Int32 × cS => ∀ lv, rx_ld lv 0 = some (.ref 159) → rx_ld lv 1 = some (.int a1) → rx_ld lv 2 = some (.int a2) → rx_ld lv 3 = some (.int s2.1) → rs (rt_P sc fm) 307 F Lo 2 lv [] (hq true s2.2 y w) Q) (B := (Sum.elim (fun x13 : cS => ∀ lv, rs (rt_P sc fm) 307 F Lo 58 lv [] (hq true x13 y w) Q) (fun x14 : cS => ∀ lv, rs (rt_P sc fm) 307 F Lo 50 lv [] (hq true x14 y w) Q))) ?_ ?_ _ _ (wp_bind h) _ l0 l1 l2 l3
  · intro s2 h lv l0 l1 l2 l3
    refine rs_ildn wi_307_2 l3 ?_
    refine rs_pure wi_307_3 rfl ?_
    refine rs_topi (v := 16) (by decide) ?_
    refine rs_icge (tg := 58) wi_307_5 ⟨by decide, by decide⟩ (fun q => ?_) (fun q => ?_)
    ·
      have h := wp_pos h q
      exact h _
    ·
      have h := wp_neg h q
      refine rs_aldn wi_307_8 l0 ?_
      refine dq_gr wi_307_9 wf_307_38 tf_159_1 ?_
      refine dq_gr wi_307_12 wf_307_178 tf_114_13 ?_
      refine rs_ildn wi_307_15 l2 ?_
      obtain ⟨g3, h⟩ := wp_gd h
      refine dq_iald wi_307_16 t_126 g3 ?_
      refine rs_ildn wi_307_17 l3 ?_
      refine rs_pure wi_307_18 rfl ?_
      refine rs_pure wi_307_19 rfl ?_
      refine rs_topi (v := 1) (by decide) ?_
      refine rs_pure wi_307_20 rfl ?_
      refine wp_jn (B := fun p4 : cS => ∀ lv, rx_ld lv 0 = some (.ref 159) → rx_ld lv 1 = some (.int a1) → rx_ld lv 2 = some (.int a2) → rx_ld lv 3 = some (.int s2.1) → rs (rt_P sc fm) 307 F Lo 52 lv [] (hq true p4 y w) Q) h (fun p4 h lv l0 l1 l2 l3 => ?_) (fun j52 hj52 h => ?_)
      ·
        obtain ⟨v6, e7, h⟩ := wp_lt h
        refine dl_inc wi_307_52 l3 rfl e7 (fun lv l3 t5 => ?_)
        have l0 := t5 _ _ (by decide) (Or.inl rfl) l0
        have l1 := t5 _ _ (by decide) (Or.inl rfl) l1
        have l2 := t5 _ _ (by decide) (Or.inl rfl) l2
        refine rs_goto (tg := 2) wi_307_55 ⟨by decide, by decide⟩ ?_
        exact h _ l0 l1 l2 l3
      refine rs_ifeq (tg := 52) wi_307_21 ⟨by decide, by decide⟩ (fun q => ?_) (fun q => ?_)
      ·
        have h := wp_pos h q
        exact hj52 _ h _ l0 l1 l2 l3
      ·
        have h := wp_neg h q
        refine rs_aldn wi_307_24 l0 ?_
        refine dq_gr wi_307_25 wf_307_18 tf_159_6 ?_
        refine rs_pure wi_307_28 rfl ?_
        refine rs_topi (v := 11) (by decide) ?_
        refine rs_pure wi_307_30 rfl ?_
        obtain ⟨g8, h⟩ := wp_gd h
        refine dq_iald wi_307_31 t_162 g8 ?_
        refine rs_pure wi_307_32 rfl ?_
        refine rs_topi (v := 1) (by decide) ?_
        refine rs_pure wi_307_33 rfl ?_
        obtain ⟨g9, h⟩ := wp_gd h
        obtain ⟨c10, e11, h⟩ := wp_lt h
        refine dq_iast wi_307_34 t_162 g9 e11 ?_
        refine rs_aldn wi_307_35 l0 ?_
        refine rs_ildn wi_307_36 l1 ?_
        refine rs_ildn wi_307_37 l2 ?_
        refine rs_ildn wi_307_38 l3 ?_
        refine rs_pure wi_307_39 rfl ?_
        refine rs_topi (v := 4) (by decide) ?_
        refine dl_irem wi_307_40 (by decide) ?_
        refine rs_ildn wi_307_41 l3 ?_
        refine rs_pure wi_307_42 rfl ?_
        refine rs_topi (v := 4) (by decide) ?_
        refine dl_idiv wi_307_43 (by decide) ?_
        refine rs_V wi_307_44 wc_307_181 rfl (dq_isa tf_159_0 wa_11_306) (Nat.le_trans (by decide) hF) (ml_le wm_306 (Nat.le_trans (by decide) hLo)) rfl (sp_306 hw (Nat.le_trans (by decide : 2 ≤ 3 - 1) (Nat.sub_le_sub_right hF 1)) (ml_sub wm_306 (Nat.le_trans (by decide : 46 ≤ 71 - 25) (Nat.sub_le_sub_right hLo 25))) (wp_bind h) (fun v12 h => rs_back1 ?_))
        refine rs_ifne (tg := 52) wi_307_47 ⟨by decide, by decide⟩ (fun q => ?_) (fun q => ?_)
        ·
          have h := wp_neg h q
          exact hj52 _ h _ l0 l1 l2 l3
        ·
          have h := wp_pos h q
          exact h _
  ·
    refine sum_all ?_ ?_
    ·
      intro x13 h lv
      have h := wp_inl h
      refine rs_pure wi_307_58 rfl ?_
      refine rs_topi (v := 1) (by decide) ?_
      exact rs_iret wi_307_59 wr_307 (nb_n (by decide)) (hQ (1, x13) h)
    ·
      intro x14 h lv
      have h := wp_inr h
      refine rs_pure wi_307_50 rfl ?_
      refine rs_topi (v := 0) (by decide) ?_
      exact rs_iret wi_307_51 wr_307 (nb_n (by decide)) (hQ (0, x14) h)
theorem wc_309_192 : rx_ct (rt_P sc fm) 309 192 = some (0, 156, 1) := (by decide +kernel : rt_ct 309 192 = some (0, 156, 1))
theorem wf_309_18 : rx_ft (rt_P sc fm) 309 18 = some (11, 6) := (by decide +kernel : rt_ft 309 18 = some (11, 6))
theorem wf_309_21 : rx_ft (rt_P sc fm) 309 21 = some (11, 7) := (by decide +kernel : rt_ft 309 21 = some (11, 7))
theorem wf_309_24 : rx_ft (rt_P sc fm) 309 24 = some (11, 8) := (by decide +kernel : rt_ft 309 24 = some (11, 8))
theorem wf_309_38 : rx_ft (rt_P sc fm) 309 38 = some (11, 1) := (by decide +kernel : rt_ft 309 38 = some (11, 1))
theorem wi_309_0 : ri (rt_P sc fm) 309 0 (.aload_n 0) (1) := ri_of (by decide +kernel) rfl
theorem wi_309_1 : ri (rt_P sc fm) 309 1 (.getfield 18) (4) := ri_of (by decide +kernel) rfl
theorem wi_309_10 : ri (rt_P sc fm) 309 10 (.aload_n 0) (11) := ri_of (by decide +kernel) rfl
theorem wi_309_11 : ri (rt_P sc fm) 309 11 (.getfield 18) (14) := ri_of (by decide +kernel) rfl
theorem wi_309_14 : ri (rt_P sc fm) 309 14 (.bipush 7) (16) := ri_of (by decide +kernel) rfl
theorem wi_309_16 : ri (rt_P sc fm) 309 16 (.aload_n 0) (17) := ri_of (by decide +kernel) rfl
theorem wi_309_17 : ri (rt_P sc fm) 309 17 (.getfield 38) (20) := ri_of (by decide +kernel) rfl
theorem wi_309_20 : ri (rt_P sc fm) 309 20 (.aload_n 0) (21) := ri_of (by decide +kernel) rfl
theorem wi_309_21 : ri (rt_P sc fm) 309 21 (.getfield 21) (24) := ri_of (by decide +kernel) rfl
theorem wi_309_24 : ri (rt_P sc fm) 309 24 (.iload_n 1) (25) := ri_of (by decide +kernel) rfl
theorem wi_309_25 : ri (rt_P sc fm) 309 25 (.iaload) (26) := ri_of (by decide +kernel) rfl
theorem wi_309_26 : ri (rt_P sc fm) 309 26 (.invokevirtual 192) (29) := ri_of (by decide +kernel) rfl
theorem wi_309_29 : ri (rt_P sc fm) 309 29 (.iastore) (30) := ri_of (by decide +kernel) rfl
theorem wi_309_30 : ri (rt_P sc fm) 309 30 (.aload_n 0) (31) := ri_of (by decide +kernel) rfl
theorem wi_309_31 : ri (rt_P sc fm) 309 31 (.getfield 18) (34) := ri_of (by decide +kernel) rfl
theorem wi_309_34 : ri (rt_P sc fm) 309 34 (.bipush 8) (36) := ri_of (by decide +kernel) rfl
theorem wi_309_36 : ri (rt_P sc fm) 309 36 (.aload_n 0) (37) := ri_of (by decide +kernel) rfl
theorem wi_309_37 : ri (rt_P sc fm) 309 37 (.getfield 24) (40) := ri_of (by decide +kernel) rfl
theorem wi_309_4 : ri (rt_P sc fm) 309 4 (.bipush 6) (6) := ri_of (by decide +kernel) rfl
theorem wi_309_40 : ri (rt_P sc fm) 309 40 (.iload_n 1) (41) := ri_of (by decide +kernel) rfl
theorem wi_309_41 : ri (rt_P sc fm) 309 41 (.iaload) (42) := ri_of (by decide +kernel) rfl
theorem wi_309_42 : ri (rt_P sc fm) 309 42 (.iastore) (43) := ri_of (by decide +kernel) rfl
theorem wi_309_43 : ri (rt_P sc fm) 309 43 (.aload_n 0) (44) := ri_of (by decide +kernel) rfl
theorem wi_309_44 : ri (rt_P sc fm) 309 44 (.getfield 18) (47) := ri_of (by decide +kernel) rfl
theorem wi_309_47 : ri (rt_P sc fm) 309 47 (.bipush 9) (49) := ri_of (by decide +kernel) rfl
theorem wi_309_49 : ri (rt_P sc fm) 309 49 (.iload_n 2) (50) := ri_of (by decide +kernel) rfl
theorem wi_309_50 : ri (rt_P sc fm) 309 50 (.iastore) (51) := ri_of (by decide +kernel) rfl
theorem wi_309_51 : ri (rt_P sc fm) 309 51 (.aload_n 0) (52) := ri_of (by decide +kernel) rfl
theorem wi_309_52 : ri (rt_P sc fm) 309 52 (.getfield 18) (55) := ri_of (by decide +kernel) rfl
theorem wi_309_55 : ri (rt_P sc fm) 309 55 (.bipush 6) (57) := ri_of (by decide +kernel) rfl
theorem wi_309_57 : ri (rt_P sc fm) 309 57 (.dup2) (58) := ri_of (by decide +kernel) rfl
theorem wi_309_58 : ri (rt_P sc fm) 309 58 (.iaload) (59) := ri_of (by decide +kernel) rfl
theorem wi_309_59 : ri (rt_P sc fm) 309 59 (.iconst 1) (60) := ri_of (by decide +kernel) rfl
theorem wi_309_6 : ri (rt_P sc fm) 309 6 (.iaload) (7) := ri_of (by decide +kernel) rfl
theorem wi_309_60 : ri (rt_P sc fm) 309 60 (.iadd) (61) := ri_of (by decide +kernel) rfl
theorem wi_309_61 : ri (rt_P sc fm) 309 61 (.iastore) (62) := ri_of (by decide +kernel) rfl
theorem wi_309_62 : ri (rt_P sc fm) 309 62 (.return_) (63) := ri_of (by decide +kernel) rfl
theorem wi_309_7 : ri (rt_P sc fm) 309 7 (.ifCond .ne 44) (10) := ri_of (by decide +kernel) rfl
theorem wr_309 : rx_rt (rt_P sc fm) 309 = none := (by decide +kernel : rt_rt 309 = none)
/-- MarkHouse$Run.noteLeft(II)V -/
def d_309 (n : Nat) (a1 : Int32) (a2 : Int32) (c : cS) : Option (cS) :=
  if ib 6 12 then
  jn (fun p2 : cS =>
    if ib 6 12 then
    if ib 6 12 then
    lt (pI p2 162 (ix 6) ((p2.1 162 (ix 6)) + 1)) (fun c5 =>
    some c5)
    else none
    else none)
  (fun j51 =>
  if (c.1 162 (ix 6)) = 0 then
    if ib a1 12 then
    Option.bind (d_156 n (c.1 163 (ix a1))) (fun v8 =>
    if ib 7 12 then
    lt (pI c 162 (ix 7) v8) (fun c10 =>
    if ib a1 12 then
    if ib 8 12 then
    lt (pI c10 162 (ix 8) (c10.1 164 (ix a1))) (fun c14 =>
    if ib 9 12 then
    lt (pI c14 162 (ix 9) a2) (fun c17 =>
    j51 c17)
    else none)
    else none
    else none)
    else none)
    else none
  else
    j51 c)
  else none
set_option maxRecDepth 100000 in
set_option maxHeartbeats 4000000 in
theorem sp_309 {F Lo n : Nat} {a1 : Int32} {a2 : Int32} {c y : cS} {w : cW} {K : cS → Prop} {Q : ((Option Value) ⊕ String) → List va_E → Prop} (hw : rOK fm w) (hF : 1 ≤ F) (hLo : 21 ≤ Lo)  (h : wp (d_309 n a1 a2 c) K) (hQ : ∀ r, K r → Q (.inl none) (hq true r y w)) : rs (rt_P sc fm) 309 F Lo 0 [(0, .ref 159), (1, .int a1), (2, .int a2)] [] (hq true c y w) Q := by
  unfold d_309 at h
  obtain ⟨lv, elv⟩ : ∃ lv : rx_L, lv = [(0, .ref 159), (1, .int a1), (2, .int a2)] := ⟨_, rfl⟩
  rw [← elv]
  have l0 : rx_ld lv 0 = some (.ref 159) := by rw [elv]; rfl
  have l1 : rx_ld lv 1 = some (.int a1) := by rw [elv]; rfl
  have l2 : rx_ld lv 2 = some (.int a2) := by rw [elv]; rfl
  refine rs_aldn wi_309_0 l0 ?_
  refine dq_gr wi_309_1 wf_309_18 tf_159_6 ?_
  refine rs_pure wi_309_4 rfl ?_
  refine rs_topi (v := 6) (by decide) ?_
  obtain ⟨g1, h⟩ := wp_gd h
  refine dq_iald wi_309_6 t_162 g1 ?_
  refine wp_jn (B := fun p2 : cS => ∀ lv, rx_ld lv 0 = some (.ref 159) → rs (rt_P sc fm) 309 F Lo 51 lv [] (hq true p2 y w) Q) h (fun p2 h lv l0 => ?_) (fun j51 hj51 h => ?_)
  ·
    refine rs_aldn wi_309_51 l0 ?_
    refine dq_gr wi_309_52 wf_309_18 tf_159_6 ?_
    refine rs_pure wi_309_55 rfl ?_
    refine rs_topi (v := 6) (by decide) ?_
    refine rs_pure wi_309_57 rfl ?_
    obtain ⟨g3, h⟩ := wp_gd h
    refine dq_iald wi_309_58 t_162 g3 ?_
    refine rs_pure wi_309_59 rfl ?_
    refine rs_topi (v := 1) (by decide) ?_
    refine rs_pure wi_309_60 rfl ?_
    obtain ⟨g4, h⟩ := wp_gd h
    obtain ⟨c5, e6, h⟩ := wp_lt h
    refine dq_iast wi_309_61 t_162 g4 e6 ?_
    exact rs_vret wi_309_62 wr_309 (hQ c5 h)
  refine rs_ifne (tg := 51) wi_309_7 ⟨by decide, by decide⟩ (fun q => ?_) (fun q => ?_)
  ·
    have h := wp_neg h q
    exact hj51 _ h _ l0
  ·
    have h := wp_pos h q
    refine rs_aldn wi_309_10 l0 ?_
    refine dq_gr wi_309_11 wf_309_18 tf_159_6 ?_
    refine rs_pure wi_309_14 rfl ?_
    refine rs_topi (v := 7) (by decide) ?_
    refine rs_aldn wi_309_16 l0 ?_
    refine dq_gr wi_309_17 wf_309_38 tf_159_1 ?_
    refine rs_aldn wi_309_20 l0 ?_
    refine dq_gr wi_309_21 wf_309_21 tf_159_7 ?_
    refine rs_ildn wi_309_24 l1 ?_
    obtain ⟨g7, h⟩ := wp_gd h
    refine dq_iald wi_309_25 t_163 g7 ?_
    refine rs_V wi_309_26 wc_309_192 rfl (dq_isa tf_114_0 wa_2_156) (Nat.le_trans (by decide) hF) (ml_le wm_156 (Nat.le_trans (by decide) hLo)) rfl (sp_156 (Nat.le_trans (by decide : 0 ≤ 1 - 1) (Nat.sub_le_sub_right hF 1)) (ml_sub wm_156 (Nat.le_trans (by decide : 0 ≤ 21 - 21) (Nat.sub_le_sub_right hLo 21))) (wp_bind h) (fun v8 h => rs_back1 ?_))
    obtain ⟨g9, h⟩ := wp_gd h
    obtain ⟨c10, e11, h⟩ := wp_lt h
    refine dq_iast wi_309_29 t_162 g9 e11 ?_
    refine rs_aldn wi_309_30 l0 ?_
    refine dq_gr wi_309_31 wf_309_18 tf_159_6 ?_
    refine rs_pure wi_309_34 rfl ?_
    refine rs_topi (v := 8) (by decide) ?_
    refine rs_aldn wi_309_36 l0 ?_
    refine dq_gr wi_309_37 wf_309_24 tf_159_8 ?_
    refine rs_ildn wi_309_40 l1 ?_
    obtain ⟨g12, h⟩ := wp_gd h
    refine dq_iald wi_309_41 t_164 g12 ?_
    obtain ⟨g13, h⟩ := wp_gd h
    obtain ⟨c14, e15, h⟩ := wp_lt h
    refine dq_iast wi_309_42 t_162 g13 e15 ?_
    refine rs_aldn wi_309_43 l0 ?_
    refine dq_gr wi_309_44 wf_309_18 tf_159_6 ?_
    refine rs_pure wi_309_47 rfl ?_
    refine rs_topi (v := 9) (by decide) ?_
    refine rs_ildn wi_309_49 l2 ?_
    obtain ⟨g16, h⟩ := wp_gd h
    obtain ⟨c17, e18, h⟩ := wp_lt h
    refine dq_iast wi_309_50 t_162 g16 e18 ?_
    exact hj51 _ h _ l0
theorem wa_11_309 : rz_cn 11 (rx_yn (rt_P sc fm) 309).cls = true := (by decide +kernel : rz_cn 11 (rt_yn 309).cls = true)
theorem wc_308_181 : rx_ct (rt_P sc fm) 308 181 = some (0, 306, 4) := (by decide +kernel : rt_ct 308 181 = some (0, 306, 4))
theorem wc_308_185 : rx_ct (rt_P sc fm) 308 185 = some (0, 168, 1) := (by decide +kernel : rt_ct 308 185 = some (0, 168, 1))
theorem wc_308_189 : rx_ct (rt_P sc fm) 308 189 = some (0, 309, 2) := (by decide +kernel : rt_ct 308 189 = some (0, 309, 2))
theorem wf_308_34 : rx_ft (rt_P sc fm) 308 34 = some (11, 0) := (by decide +kernel : rt_ft 308 34 = some (11, 0))
theorem wf_308_38 : rx_ft (rt_P sc fm) 308 38 = some (11, 1) := (by decide +kernel : rt_ft 308 38 = some (11, 1))
theorem wf_308_78 : rx_ft (rt_P sc fm) 308 78 = some (9, 2) := (by decide +kernel : rt_ft 308 78 = some (9, 2))
theorem wi_308_0 : ri (rt_P sc fm) 308 0 (.aload_n 0) (1) := ri_of (by decide +kernel) rfl
theorem wi_308_1 : ri (rt_P sc fm) 308 1 (.getfield 38) (4) := ri_of (by decide +kernel) rfl
theorem wi_308_10 : ri (rt_P sc fm) 308 10 (.istore 4) (12) := ri_of (by decide +kernel) rfl
theorem wi_308_12 : ri (rt_P sc fm) 308 12 (.iload 4) (14) := ri_of (by decide +kernel) rfl
theorem wi_308_14 : ri (rt_P sc fm) 308 14 (.aload_n 0) (15) := ri_of (by decide +kernel) rfl
theorem wi_308_15 : ri (rt_P sc fm) 308 15 (.getfield 34) (18) := ri_of (by decide +kernel) rfl
theorem wi_308_18 : ri (rt_P sc fm) 308 18 (.getfield 78) (21) := ri_of (by decide +kernel) rfl
theorem wi_308_21 : ri (rt_P sc fm) 308 21 (.if_icmp .ge 48) (24) := ri_of (by decide +kernel) rfl
theorem wi_308_24 : ri (rt_P sc fm) 308 24 (.iload_n 3) (25) := ri_of (by decide +kernel) rfl
theorem wi_308_25 : ri (rt_P sc fm) 308 25 (.ifCond .le 44) (28) := ri_of (by decide +kernel) rfl
theorem wi_308_28 : ri (rt_P sc fm) 308 28 (.iconst 0) (29) := ri_of (by decide +kernel) rfl
theorem wi_308_29 : ri (rt_P sc fm) 308 29 (.istore 5) (31) := ri_of (by decide +kernel) rfl
theorem wi_308_31 : ri (rt_P sc fm) 308 31 (.iload 5) (33) := ri_of (by decide +kernel) rfl
theorem wi_308_33 : ri (rt_P sc fm) 308 33 (.iload_n 3) (34) := ri_of (by decide +kernel) rfl
theorem wi_308_34 : ri (rt_P sc fm) 308 34 (.if_icmp .ge 29) (37) := ri_of (by decide +kernel) rfl
theorem wi_308_37 : ri (rt_P sc fm) 308 37 (.aload_n 0) (38) := ri_of (by decide +kernel) rfl
theorem wi_308_38 : ri (rt_P sc fm) 308 38 (.iload_n 1) (39) := ri_of (by decide +kernel) rfl
theorem wi_308_39 : ri (rt_P sc fm) 308 39 (.iload_n 2) (40) := ri_of (by decide +kernel) rfl
theorem wi_308_4 : ri (rt_P sc fm) 308 4 (.iload_n 2) (5) := ri_of (by decide +kernel) rfl
theorem wi_308_40 : ri (rt_P sc fm) 308 40 (.iload 5) (42) := ri_of (by decide +kernel) rfl
theorem wi_308_42 : ri (rt_P sc fm) 308 42 (.iload 4) (44) := ri_of (by decide +kernel) rfl
theorem wi_308_44 : ri (rt_P sc fm) 308 44 (.invokevirtual 181) (47) := ri_of (by decide +kernel) rfl
theorem wi_308_47 : ri (rt_P sc fm) 308 47 (.ifCond .ne 10) (50) := ri_of (by decide +kernel) rfl
theorem wi_308_5 : ri (rt_P sc fm) 308 5 (.invokevirtual 185) (8) := ri_of (by decide +kernel) rfl
theorem wi_308_50 : ri (rt_P sc fm) 308 50 (.aload_n 0) (51) := ri_of (by decide +kernel) rfl
theorem wi_308_51 : ri (rt_P sc fm) 308 51 (.iload_n 1) (52) := ri_of (by decide +kernel) rfl
theorem wi_308_52 : ri (rt_P sc fm) 308 52 (.iload 4) (54) := ri_of (by decide +kernel) rfl
theorem wi_308_54 : ri (rt_P sc fm) 308 54 (.invokevirtual 189) (57) := ri_of (by decide +kernel) rfl
theorem wi_308_57 : ri (rt_P sc fm) 308 57 (.iinc 5 1) (60) := ri_of (by decide +kernel) rfl
theorem wi_308_60 : ri (rt_P sc fm) 308 60 (.goto (-29)) (63) := ri_of (by decide +kernel) rfl
theorem wi_308_63 : ri (rt_P sc fm) 308 63 (.iinc 4 1) (66) := ri_of (by decide +kernel) rfl
theorem wi_308_66 : ri (rt_P sc fm) 308 66 (.goto (-54)) (69) := ri_of (by decide +kernel) rfl
theorem wi_308_69 : ri (rt_P sc fm) 308 69 (.return_) (70) := ri_of (by decide +kernel) rfl
theorem wi_308_8 : ri (rt_P sc fm) 308 8 (.istore_n 3) (9) := ri_of (by decide +kernel) rfl
theorem wi_308_9 : ri (rt_P sc fm) 308 9 (.iconst 0) (10) := ri_of (by decide +kernel) rfl
theorem wm_309 : rx_ml (rt_P sc fm) 309 = 3 := (by decide +kernel : rt_ml 309 = 3)
theorem wr_308 : rx_rt (rt_P sc fm) 308 = none := (by decide +kernel : rt_rt 308 = none)
/-- MarkHouse$Run.countLeft(II)V -/
def d_308 (n : Nat) (a1 : Int32) (a2 : Int32) (c : cS) : Option (cS) :=
  Option.bind (d_168 n a2 c) (fun v1 =>
  Option.bind (whl (R := (cS)) (fun s4 : Int32 × cS =>
    if (s4.2.1 7 2) ≤ s4.1 then
      some (.inr s4.2)
    else
      if v1 ≤ 0 then
        some (.inr s4.2)
      else
        Option.bind (whl (R := (cS)) (fun s6 : Int32 × cS =>
          if v1 ≤ s6.1 then
            some (.inr s6.2)
          else
            Option.bind (d_306 n a1 a2 s6.1 s4.1 s6.2) (fun v7 =>
            jn (fun p8 : cS =>
              lt (s6.1 + 1 : Int32) (fun v10 =>
              some (.inl (v10, p8))))
            (fun j57 =>
            if v7 = 0 then
              Option.bind (d_309 n a1 s4.1 s6.2) (fun r12 =>
              j57 r12)
            else
              j57 s6.2))) n (0, s4.2))
        (fun x13 : cS =>
          lt (s4.1 + 1 : Int32) (fun v15 =>
          some (.inl (v15, x13))))) n (0, c))
  (fun x17 : cS =>
    some x17))
set_option maxRecDepth 100000 in
set_option maxHeartbeats 4000000 in
theorem sp_308 {F Lo n : Nat} {a1 : Int32} {a2 : Int32} {c y : cS} {w : cW} {K : cS → Prop} {Q : ((Option Value) ⊕ String) → List va_E → Prop} (hw : rOK fm w) (hF : 3 ≤ F) (hLo : 71 ≤ Lo)  (h : wp (d_308 n a1 a2 c) K) (hQ : ∀ r, K r → Q (.inl none) (hq true r y w)) : rs (rt_P sc fm) 308 F Lo 0 [(0, .ref 159), (1, .int a1), (2, .int a2)] [] (hq true c y w) Q := by
  unfold d_308 at h
  obtain ⟨lv, elv⟩ : ∃ lv : rx_L, lv = [(0, .ref 159), (1, .int a1), (2, .int a2)] := ⟨_, rfl⟩
  rw [← elv]
  have l0 : rx_ld lv 0 = some (.ref 159) := by rw [elv]; rfl
  have l1 : rx_ld lv 1 = some (.int a1) := by rw [elv]; rfl
  have l2 : rx_ld lv 2 = some (.int a2) := by rw [elv]; rfl
  refine rs_aldn wi_308_0 l0 ?_
  refine dq_gr wi_308_1 wf_308_38 tf_159_1 ?_
  refine rs_ildn wi_308_4 l2 ?_
  refine rs_V wi_308_5 wc_308_185 rfl (dq_isa tf_114_0 wa_2_168) (Nat.le_trans (by decide) hF) (ml_le wm_168 (Nat.le_trans (by decide) hLo)) rfl (sp_168 hw (Nat.le_trans (by decide : 0 ≤ 3 - 1) (Nat.sub_le_sub_right hF 1)) (ml_sub wm_168 (Nat.le_trans (by decide : 0 ≤ 71 - 21) (Nat.sub_le_sub_right hLo 21))) (wp_bind h) (fun v1 h => rs_back1 ?_))
  refine dl_istn wi_308_8 rfl (fun lv l3 t2 => ?_)
  have l0 := t2 _ _ (by decide) (Or.inl rfl) l0
  have l1 := t2 _ _ (by decide) (Or.inl rfl) l1
  have l2 := t2 _ _ (by decide) (Or.inl rfl) l2
  refine rs_pure wi_308_9 rfl ?_
  refine rs_topi (v := 0) (by decide) ?_
  refine dl_ist wi_308_10 rfl (fun lv l4 t3 => ?_)
  have l0 := t3 _ _ (by decide) (Or.inl rfl) l0
  have l1 := t3 _ _ (by decide) (Or.inl rfl) l1
  have l2 := t3 _ _ (by decide) (Or.inl rfl) l2
  have l3 := t3 _ _ (by decide) (Or.inl rfl) l3
  refine whl_ex (A := fun s4 : Int32 × cS => ∀ lv, rx_ld lv 0 = some (.ref 159) → rx_ld lv 1 = some (.int a1) → rx_ld lv 2 = some (.int a2) → rx_ld lv 3 = some (.int v1) → rx_ld lv 4 = some (.int s4.1) → rs (rt_P sc fm) 308 F Lo 12 lv [] (hq true s4.2 y w) Q) (B := (fun x17 : cS => ∀ lv, rs (rt_P sc fm) 308 F Lo 69 lv [] (hq true x17 y w) Q)) ?_ ?_ _ _ (wp_bind h) _ l0 l1 l2 l3 l4
  · intro s4 h lv l0 l1 l2 l3 l4
    refine rs_ild wi_308_12 l4 ?_
    refine rs_aldn wi_308_14 l0 ?_
    refine dq_gr wi_308_15 wf_308_34 tf_159_0 ?_
    refine dq_gi wi_308_18 wf_308_78 tf_7_2 ?_
    refine rs_icge (tg := 69) wi_308_21 ⟨by decide, by decide⟩ (fun q => ?_) (fun q => ?_)
    ·
      have h := wp_pos h q
      exact h _
    ·
      have h := wp_neg h q
      refine rs_ildn wi_308_24 l3 ?_
      refine rs_ifle (tg := 69) wi_308_25 ⟨by decide, by decide⟩ (fun q => ?_) (fun q => ?_)
      ·
        have h := wp_pos h q
        exact h _
      ·
        have h := wp_neg h q
        refine rs_pure wi_308_28 rfl ?_
        refine rs_topi (v := 0) (by decide) ?_
        refine dl_ist wi_308_29 rfl (fun lv l5 t5 => ?_)
        have l0 := t5 _ _ (by decide) (Or.inl rfl) l0
        have l1 := t5 _ _ (by decide) (Or.inl rfl) l1
        have l2 := t5 _ _ (by decide) (Or.inl rfl) l2
        have l3 := t5 _ _ (by decide) (Or.inl rfl) l3
        have l4 := t5 _ _ (by decide) (Or.inl rfl) l4
        refine whl_ex (A := fun s6 : Int32 × cS => ∀ lv, rx_ld lv 0 = some (.ref 159) → rx_ld lv 1 = some (.int a1) → rx_ld lv 2 = some (.int a2) → rx_ld lv 3 = some (.int v1) → rx_ld lv 4 = some (.int s4.1) → rx_ld lv 5 = some (.int s6.1) → rs (rt_P sc fm) 308 F Lo 31 lv [] (hq true s6.2 y w) Q) (B := (fun x13 : cS => ∀ lv, rx_ld lv 0 = some (.ref 159) → rx_ld lv 1 = some (.int a1) → rx_ld lv 2 = some (.int a2) → rx_ld lv 3 = some (.int v1) → rx_ld lv 4 = some (.int s4.1) → rs (rt_P sc fm) 308 F Lo 63 lv [] (hq true x13 y w) Q)) ?_ ?_ _ _ (wp_bind h) _ l0 l1 l2 l3 l4 l5
        · intro s6 h lv l0 l1 l2 l3 l4 l5
          refine rs_ild wi_308_31 l5 ?_
          refine rs_ildn wi_308_33 l3 ?_
          refine rs_icge (tg := 63) wi_308_34 ⟨by decide, by decide⟩ (fun q => ?_) (fun q => ?_)
          ·
            have h := wp_pos h q
            exact h _ l0 l1 l2 l3 l4
          ·
            have h := wp_neg h q
            refine rs_aldn wi_308_37 l0 ?_
            refine rs_ildn wi_308_38 l1 ?_
            refine rs_ildn wi_308_39 l2 ?_
            refine rs_ild wi_308_40 l5 ?_
            refine rs_ild wi_308_42 l4 ?_
            refine rs_V wi_308_44 wc_308_181 rfl (dq_isa tf_159_0 wa_11_306) (Nat.le_trans (by decide) hF) (ml_le wm_306 (Nat.le_trans (by decide) hLo)) rfl (sp_306 hw (Nat.le_trans (by decide : 2 ≤ 3 - 1) (Nat.sub_le_sub_right hF 1)) (ml_sub wm_306 (Nat.le_trans (by decide : 46 ≤ 71 - 25) (Nat.sub_le_sub_right hLo 25))) (wp_bind h) (fun v7 h => rs_back1 ?_))
            refine wp_jn (B := fun p8 : cS => ∀ lv, rx_ld lv 0 = some (.ref 159) → rx_ld lv 1 = some (.int a1) → rx_ld lv 2 = some (.int a2) → rx_ld lv 3 = some (.int v1) → rx_ld lv 4 = some (.int s4.1) → rx_ld lv 5 = some (.int s6.1) → rs (rt_P sc fm) 308 F Lo 57 lv [] (hq true p8 y w) Q) h (fun p8 h lv l0 l1 l2 l3 l4 l5 => ?_) (fun j57 hj57 h => ?_)
            ·
              obtain ⟨v10, e11, h⟩ := wp_lt h
              refine dl_inc wi_308_57 l5 rfl e11 (fun lv l5 t9 => ?_)
              have l0 := t9 _ _ (by decide) (Or.inl rfl) l0
              have l1 := t9 _ _ (by decide) (Or.inl rfl) l1
              have l2 := t9 _ _ (by decide) (Or.inl rfl) l2
              have l3 := t9 _ _ (by decide) (Or.inl rfl) l3
              have l4 := t9 _ _ (by decide) (Or.inl rfl) l4
              refine rs_goto (tg := 31) wi_308_60 ⟨by decide, by decide⟩ ?_
              exact h _ l0 l1 l2 l3 l4 l5
            refine rs_ifne (tg := 57) wi_308_47 ⟨by decide, by decide⟩ (fun q => ?_) (fun q => ?_)
            ·
              have h := wp_neg h q
              exact hj57 _ h _ l0 l1 l2 l3 l4 l5
            ·
              have h := wp_pos h q
              refine rs_aldn wi_308_50 l0 ?_
              refine rs_ildn wi_308_51 l1 ?_
              refine rs_ild wi_308_52 l4 ?_
              refine rs_V wi_308_54 wc_308_189 rfl (dq_isa tf_159_0 wa_11_309) (Nat.le_trans (by decide) hF) (ml_le wm_309 (Nat.le_trans (by decide) hLo)) rfl (sp_309 hw (Nat.le_trans (by decide : 1 ≤ 3 - 1) (Nat.sub_le_sub_right hF 1)) (ml_sub wm_309 (Nat.le_trans (by decide : 21 ≤ 71 - 22) (Nat.sub_le_sub_right hLo 22))) (wp_bind h) (fun r12 h => rs_back0 ?_))
              exact hj57 _ h _ l0 l1 l2 l3 l4 l5
        ·
          intro x13 h lv l0 l1 l2 l3 l4
          obtain ⟨v15, e16, h⟩ := wp_lt h
          refine dl_inc wi_308_63 l4 rfl e16 (fun lv l4 t14 => ?_)
          have l0 := t14 _ _ (by decide) (Or.inl rfl) l0
          have l1 := t14 _ _ (by decide) (Or.inl rfl) l1
          have l2 := t14 _ _ (by decide) (Or.inl rfl) l2
          have l3 := t14 _ _ (by decide) (Or.inl rfl) l3
          refine rs_goto (tg := 12) wi_308_66 ⟨by decide, by decide⟩ ?_
          exact h _ l0 l1 l2 l3 l4
  ·
    intro x17 h lv
    exact rs_vret wi_308_69 wr_308 (hQ x17 h)
theorem wc_310_102 : rx_ct (rt_P sc fm) 310 102 = some (0, 301, 1) := (by decide +kernel : rt_ct 310 102 = some (0, 301, 1))
theorem wc_310_195 : rx_ct (rt_P sc fm) 310 195 = some (0, 165, 1) := (by decide +kernel : rt_ct 310 195 = some (0, 165, 1))
theorem wc_310_204 : rx_ct (rt_P sc fm) 310 204 = some (0, 22, 1) := (by decide +kernel : rt_ct 310 204 = some (0, 22, 1))
theorem wcn_310_50 : rx_ct (rt_P sc fm) 310 50 = none := (by decide +kernel : rt_ct 310 50 = none)
theorem wf_310_198 : rx_ft (rt_P sc fm) 310 198 = some (2, 12) := (by decide +kernel : rt_ft 310 198 = some (2, 12))
theorem wf_310_201 : rx_ft (rt_P sc fm) 310 201 = some (2, 10) := (by decide +kernel : rt_ft 310 201 = some (2, 10))
theorem wf_310_27 : rx_ft (rt_P sc fm) 310 27 = some (11, 9) := (by decide +kernel : rt_ft 310 27 = some (11, 9))
theorem wf_310_38 : rx_ft (rt_P sc fm) 310 38 = some (11, 1) := (by decide +kernel : rt_ft 310 38 = some (11, 1))
theorem wi_310_0 : ri (rt_P sc fm) 310 0 (.aload_n 0) (1) := ri_of (by decide +kernel) rfl
theorem wi_310_1 : ri (rt_P sc fm) 310 1 (.getfield 38) (4) := ri_of (by decide +kernel) rfl
theorem wi_310_10 : ri (rt_P sc fm) 310 10 (.bipush 16) (12) := ri_of (by decide +kernel) rfl
theorem wi_310_12 : ri (rt_P sc fm) 310 12 (.imul) (13) := ri_of (by decide +kernel) rfl
theorem wi_310_13 : ri (rt_P sc fm) 310 13 (.bipush 8) (15) := ri_of (by decide +kernel) rfl
theorem wi_310_15 : ri (rt_P sc fm) 310 15 (.iadd) (16) := ri_of (by decide +kernel) rfl
theorem wi_310_16 : ri (rt_P sc fm) 310 16 (.aload_n 0) (17) := ri_of (by decide +kernel) rfl
theorem wi_310_17 : ri (rt_P sc fm) 310 17 (.getfield 38) (20) := ri_of (by decide +kernel) rfl
theorem wi_310_20 : ri (rt_P sc fm) 310 20 (.getfield 198) (23) := ri_of (by decide +kernel) rfl
theorem wi_310_23 : ri (rt_P sc fm) 310 23 (.iload_n 2) (24) := ri_of (by decide +kernel) rfl
theorem wi_310_24 : ri (rt_P sc fm) 310 24 (.iaload) (25) := ri_of (by decide +kernel) rfl
theorem wi_310_25 : ri (rt_P sc fm) 310 25 (.iadd) (26) := ri_of (by decide +kernel) rfl
theorem wi_310_26 : ri (rt_P sc fm) 310 26 (.iload_n 3) (27) := ri_of (by decide +kernel) rfl
theorem wi_310_27 : ri (rt_P sc fm) 310 27 (.isub) (28) := ri_of (by decide +kernel) rfl
theorem wi_310_28 : ri (rt_P sc fm) 310 28 (.istore 4) (30) := ri_of (by decide +kernel) rfl
theorem wi_310_30 : ri (rt_P sc fm) 310 30 (.aload_n 0) (31) := ri_of (by decide +kernel) rfl
theorem wi_310_31 : ri (rt_P sc fm) 310 31 (.aload_n 0) (32) := ri_of (by decide +kernel) rfl
theorem wi_310_32 : ri (rt_P sc fm) 310 32 (.getfield 38) (35) := ri_of (by decide +kernel) rfl
theorem wi_310_35 : ri (rt_P sc fm) 310 35 (.aload_n 0) (36) := ri_of (by decide +kernel) rfl
theorem wi_310_36 : ri (rt_P sc fm) 310 36 (.getfield 38) (39) := ri_of (by decide +kernel) rfl
theorem wi_310_39 : ri (rt_P sc fm) 310 39 (.getfield 201) (42) := ri_of (by decide +kernel) rfl
theorem wi_310_4 : ri (rt_P sc fm) 310 4 (.iload_n 2) (5) := ri_of (by decide +kernel) rfl
theorem wi_310_42 : ri (rt_P sc fm) 310 42 (.iload_n 2) (43) := ri_of (by decide +kernel) rfl
theorem wi_310_43 : ri (rt_P sc fm) 310 43 (.iaload) (44) := ri_of (by decide +kernel) rfl
theorem wi_310_44 : ri (rt_P sc fm) 310 44 (.invokevirtual 204) (47) := ri_of (by decide +kernel) rfl
theorem wi_310_47 : ri (rt_P sc fm) 310 47 (.invokevirtual 102) (50) := ri_of (by decide +kernel) rfl
theorem wi_310_5 : ri (rt_P sc fm) 310 5 (.invokevirtual 195) (8) := ri_of (by decide +kernel) rfl
theorem wi_310_50 : ri (rt_P sc fm) 310 50 (.aload_n 0) (51) := ri_of (by decide +kernel) rfl
theorem wi_310_51 : ri (rt_P sc fm) 310 51 (.getfield 27) (54) := ri_of (by decide +kernel) rfl
theorem wi_310_54 : ri (rt_P sc fm) 310 54 (.iload 4) (56) := ri_of (by decide +kernel) rfl
theorem wi_310_56 : ri (rt_P sc fm) 310 56 (.aload_n 0) (57) := ri_of (by decide +kernel) rfl
theorem wi_310_57 : ri (rt_P sc fm) 310 57 (.getfield 27) (60) := ri_of (by decide +kernel) rfl
theorem wi_310_60 : ri (rt_P sc fm) 310 60 (.iload_n 1) (61) := ri_of (by decide +kernel) rfl
theorem wi_310_61 : ri (rt_P sc fm) 310 61 (.bipush 16) (63) := ri_of (by decide +kernel) rfl
theorem wi_310_63 : ri (rt_P sc fm) 310 63 (.imul) (64) := ri_of (by decide +kernel) rfl
theorem wi_310_64 : ri (rt_P sc fm) 310 64 (.bipush 16) (66) := ri_of (by decide +kernel) rfl
theorem wi_310_66 : ri (rt_P sc fm) 310 66 (.iadd) (67) := ri_of (by decide +kernel) rfl
theorem wi_310_67 : ri (rt_P sc fm) 310 67 (.iload_n 3) (68) := ri_of (by decide +kernel) rfl
theorem wi_310_68 : ri (rt_P sc fm) 310 68 (.invokestatic 50) (71) := ri_of (by decide +kernel) rfl
theorem wi_310_71 : ri (rt_P sc fm) 310 71 (.return_) (72) := ri_of (by decide +kernel) rfl
theorem wi_310_8 : ri (rt_P sc fm) 310 8 (.istore_n 3) (9) := ri_of (by decide +kernel) rfl
theorem wi_310_9 : ri (rt_P sc fm) 310 9 (.iload_n 1) (10) := ri_of (by decide +kernel) rfl
theorem wq7_310_50 : rx_qt (rt_P sc fm) 310 50 = some 7 := (by decide +kernel : rt_qt 310 50 = some 7)
theorem wr_310 : rx_rt (rt_P sc fm) 310 = none := (by decide +kernel : rt_rt 310 = none)
/-- MarkHouse$Run.enter(II)V -/
def d_310 (n : Nat) (a1 : Int32) (a2 : Int32) (c : cS) : Option (cS) :=
  Option.bind (d_165 n a2 c) (fun v1 =>
  if ib a2 1024 then
  lt (((((a1 * 16) + 8) + (c.1 125 (ix a2))) - v1) : Int32) (fun v5 =>
  if ib a2 1024 then
  Option.bind (d_22 n (c.1 123 (ix a2))) (fun v8 =>
  Option.bind (d_301 n v8 c) (fun r9 =>
  if cg v5 ((a1 * 16) + 16) v1 192 192 then
  lt (pCL r9 165 165 v5 ((a1 * 16) + 16) v1) (fun c11 =>
  some c11)
  else none))
  else none)
  else none)
set_option maxRecDepth 100000 in
set_option maxHeartbeats 4000000 in
theorem sp_310 {F Lo n : Nat} {a1 : Int32} {a2 : Int32} {c y : cS} {w : cW} {K : cS → Prop} {Q : ((Option Value) ⊕ String) → List va_E → Prop} (hw : rOK fm w) (hF : 3 ≤ F) (hLo : 68 ≤ Lo)  (h : wp (d_310 n a1 a2 c) K) (hQ : ∀ r, K r → Q (.inl none) (hq true r y w)) : rs (rt_P sc fm) 310 F Lo 0 [(0, .ref 159), (1, .int a1), (2, .int a2)] [] (hq true c y w) Q := by
  unfold d_310 at h
  obtain ⟨lv, elv⟩ : ∃ lv : rx_L, lv = [(0, .ref 159), (1, .int a1), (2, .int a2)] := ⟨_, rfl⟩
  rw [← elv]
  have l0 : rx_ld lv 0 = some (.ref 159) := by rw [elv]; rfl
  have l1 : rx_ld lv 1 = some (.int a1) := by rw [elv]; rfl
  have l2 : rx_ld lv 2 = some (.int a2) := by rw [elv]; rfl
  refine rs_aldn wi_310_0 l0 ?_
  refine dq_gr wi_310_1 wf_310_38 tf_159_1 ?_
  refine rs_ildn wi_310_4 l2 ?_
  refine rs_V wi_310_5 wc_310_195 rfl (dq_isa tf_114_0 wa_2_165) (Nat.le_trans (by decide) hF) (ml_le wm_165 (Nat.le_trans (by decide) hLo)) rfl (sp_165 hw (Nat.le_trans (by decide : 0 ≤ 3 - 1) (Nat.sub_le_sub_right hF 1)) (ml_sub wm_165 (Nat.le_trans (by decide : 0 ≤ 68 - 21) (Nat.sub_le_sub_right hLo 21))) (wp_bind h) (fun v1 h => rs_back1 ?_))
  refine dl_istn wi_310_8 rfl (fun lv l3 t2 => ?_)
  have l0 := t2 _ _ (by decide) (Or.inl rfl) l0
  have l1 := t2 _ _ (by decide) (Or.inl rfl) l1
  have l2 := t2 _ _ (by decide) (Or.inl rfl) l2
  refine rs_ildn wi_310_9 l1 ?_
  refine rs_pure wi_310_10 rfl ?_
  refine rs_topi (v := 16) (by decide) ?_
  refine rs_pure wi_310_12 rfl ?_
  refine rs_pure wi_310_13 rfl ?_
  refine rs_topi (v := 8) (by decide) ?_
  refine rs_pure wi_310_15 rfl ?_
  refine rs_aldn wi_310_16 l0 ?_
  refine dq_gr wi_310_17 wf_310_38 tf_159_1 ?_
  refine dq_gr wi_310_20 wf_310_198 tf_114_12 ?_
  refine rs_ildn wi_310_23 l2 ?_
  obtain ⟨g3, h⟩ := wp_gd h
  refine dq_iald wi_310_24 t_125 g3 ?_
  refine rs_pure wi_310_25 rfl ?_
  refine rs_ildn wi_310_26 l3 ?_
  refine rs_pure wi_310_27 rfl ?_
  obtain ⟨v5, e6, h⟩ := wp_lt h
  refine rs_topi e6 ?_
  refine dl_ist wi_310_28 rfl (fun lv l4 t4 => ?_)
  have l0 := t4 _ _ (by decide) (Or.inl rfl) l0
  have l1 := t4 _ _ (by decide) (Or.inl rfl) l1
  have l2 := t4 _ _ (by decide) (Or.inl rfl) l2
  have l3 := t4 _ _ (by decide) (Or.inl rfl) l3
  refine rs_aldn wi_310_30 l0 ?_
  refine rs_aldn wi_310_31 l0 ?_
  refine dq_gr wi_310_32 wf_310_38 tf_159_1 ?_
  refine rs_aldn wi_310_35 l0 ?_
  refine dq_gr wi_310_36 wf_310_38 tf_159_1 ?_
  refine dq_gr wi_310_39 wf_310_201 tf_114_10 ?_
  refine rs_ildn wi_310_42 l2 ?_
  obtain ⟨g7, h⟩ := wp_gd h
  refine dq_iald wi_310_43 t_123 g7 ?_
  refine rs_V wi_310_44 wc_310_204 rfl (dq_isa tf_114_0 wa_2_22) (Nat.le_trans (by decide) hF) (ml_le wm_22 (Nat.le_trans (by decide) hLo)) rfl (sp_22 (Nat.le_trans (by decide : 0 ≤ 3 - 1) (Nat.sub_le_sub_right hF 1)) (ml_sub wm_22 (Nat.le_trans (by decide : 0 ≤ 68 - 21) (Nat.sub_le_sub_right hLo 21))) (wp_bind h) (fun v8 h => rs_back1 ?_))
  refine rs_V wi_310_47 wc_310_102 rfl (dq_isa tf_159_0 wa_11_301) (Nat.le_trans (by decide) hF) (ml_le wm_301 (Nat.le_trans (by decide) hLo)) rfl (sp_301 hw (Nat.le_trans (by decide : 2 ≤ 3 - 1) (Nat.sub_le_sub_right hF 1)) (ml_sub wm_301 (Nat.le_trans (by decide : 47 ≤ 68 - 21) (Nat.sub_le_sub_right hLo 21))) (wp_bind h) (fun r9 h => rs_back0 ?_))
  refine rs_aldn wi_310_50 l0 ?_
  refine dq_gr wi_310_51 wf_310_27 tf_159_9 ?_
  refine rs_ild wi_310_54 l4 ?_
  refine rs_aldn wi_310_56 l0 ?_
  refine dq_gr wi_310_57 wf_310_27 tf_159_9 ?_
  refine rs_ildn wi_310_60 l1 ?_
  refine rs_pure wi_310_61 rfl ?_
  refine rs_topi (v := 16) (by decide) ?_
  refine rs_pure wi_310_63 rfl ?_
  refine rs_pure wi_310_64 rfl ?_
  refine rs_topi (v := 16) (by decide) ?_
  refine rs_pure wi_310_66 rfl ?_
  refine rs_ildn wi_310_67 l3 ?_
  obtain ⟨g10, h⟩ := wp_gd h
  obtain ⟨c11, e12, h⟩ := wp_lt h
  refine dq_cpL wi_310_68 wcn_310_50 wq7_310_50 t_165 t_165 g10 (Nat.le_trans (by decide) hF) (Nat.le_trans (by decide) hLo) e12 ?_
  exact rs_vret wi_310_71 wr_310 (hQ c11 h)
theorem tf_159_13 : fo true 159 11 13 (.long 0) := ⟨_, rfl, rfl, by decide, by decide⟩
theorem wc_311_195 : rx_ct (rt_P sc fm) 311 195 = some (0, 165, 1) := (by decide +kernel : rt_ct 311 195 = some (0, 165, 1))
theorem wf_311_121 : rx_ft (rt_P sc fm) 311 121 = some (2, 5) := (by decide +kernel : rt_ft 311 121 = some (2, 5))
theorem wf_311_18 : rx_ft (rt_P sc fm) 311 18 = some (11, 6) := (by decide +kernel : rt_ft 311 18 = some (11, 6))
theorem wf_311_198 : rx_ft (rt_P sc fm) 311 198 = some (2, 12) := (by decide +kernel : rt_ft 311 198 = some (2, 12))
theorem wf_311_21 : rx_ft (rt_P sc fm) 311 21 = some (11, 7) := (by decide +kernel : rt_ft 311 21 = some (11, 7))
theorem wf_311_24 : rx_ft (rt_P sc fm) 311 24 = some (11, 8) := (by decide +kernel : rt_ft 311 24 = some (11, 8))
theorem wf_311_27 : rx_ft (rt_P sc fm) 311 27 = some (11, 9) := (by decide +kernel : rt_ft 311 27 = some (11, 9))
theorem wf_311_38 : rx_ft (rt_P sc fm) 311 38 = some (11, 1) := (by decide +kernel : rt_ft 311 38 = some (11, 1))
theorem wf_311_99 : rx_ft (rt_P sc fm) 311 99 = some (11, 10) := (by decide +kernel : rt_ft 311 99 = some (11, 10))
theorem wi_311_0 : ri (rt_P sc fm) 311 0 (.aload_n 0) (1) := ri_of (by decide +kernel) rfl
theorem wi_311_1 : ri (rt_P sc fm) 311 1 (.getfield 27) (4) := ri_of (by decide +kernel) rfl
theorem wi_311_10 : ri (rt_P sc fm) 311 10 (.iadd) (11) := ri_of (by decide +kernel) rfl
theorem wi_311_101 : ri (rt_P sc fm) 311 101 (.iadd) (102) := ri_of (by decide +kernel) rfl
theorem wi_311_102 : ri (rt_P sc fm) 311 102 (.aload_n 0) (103) := ri_of (by decide +kernel) rfl
theorem wi_311_103 : ri (rt_P sc fm) 311 103 (.getfield 38) (106) := ri_of (by decide +kernel) rfl
theorem wi_311_106 : ri (rt_P sc fm) 311 106 (.getfield 198) (109) := ri_of (by decide +kernel) rfl
theorem wi_311_109 : ri (rt_P sc fm) 311 109 (.iload 6) (111) := ri_of (by decide +kernel) rfl
theorem wi_311_11 : ri (rt_P sc fm) 311 11 (.aload_n 0) (12) := ri_of (by decide +kernel) rfl
theorem wi_311_111 : ri (rt_P sc fm) 311 111 (.iaload) (112) := ri_of (by decide +kernel) rfl
theorem wi_311_112 : ri (rt_P sc fm) 311 112 (.iadd) (113) := ri_of (by decide +kernel) rfl
theorem wi_311_113 : ri (rt_P sc fm) 311 113 (.aload_n 0) (114) := ri_of (by decide +kernel) rfl
theorem wi_311_114 : ri (rt_P sc fm) 311 114 (.getfield 38) (117) := ri_of (by decide +kernel) rfl
theorem wi_311_117 : ri (rt_P sc fm) 311 117 (.iload 6) (119) := ri_of (by decide +kernel) rfl
theorem wi_311_119 : ri (rt_P sc fm) 311 119 (.invokevirtual 195) (122) := ri_of (by decide +kernel) rfl
theorem wi_311_12 : ri (rt_P sc fm) 311 12 (.getfield 38) (15) := ri_of (by decide +kernel) rfl
theorem wi_311_122 : ri (rt_P sc fm) 311 122 (.isub) (123) := ri_of (by decide +kernel) rfl
theorem wi_311_123 : ri (rt_P sc fm) 311 123 (.lload_n 3) (124) := ri_of (by decide +kernel) rfl
theorem wi_311_124 : ri (rt_P sc fm) 311 124 (.lastore) (125) := ri_of (by decide +kernel) rfl
theorem wi_311_125 : ri (rt_P sc fm) 311 125 (.aload_n 0) (126) := ri_of (by decide +kernel) rfl
theorem wi_311_126 : ri (rt_P sc fm) 311 126 (.getfield 24) (129) := ri_of (by decide +kernel) rfl
theorem wi_311_129 : ri (rt_P sc fm) 311 129 (.iload 5) (131) := ri_of (by decide +kernel) rfl
theorem wi_311_131 : ri (rt_P sc fm) 311 131 (.dup2) (132) := ri_of (by decide +kernel) rfl
theorem wi_311_132 : ri (rt_P sc fm) 311 132 (.iaload) (133) := ri_of (by decide +kernel) rfl
theorem wi_311_133 : ri (rt_P sc fm) 311 133 (.iconst 1) (134) := ri_of (by decide +kernel) rfl
theorem wi_311_134 : ri (rt_P sc fm) 311 134 (.iadd) (135) := ri_of (by decide +kernel) rfl
theorem wi_311_135 : ri (rt_P sc fm) 311 135 (.iastore) (136) := ri_of (by decide +kernel) rfl
theorem wi_311_136 : ri (rt_P sc fm) 311 136 (.return_) (137) := ri_of (by decide +kernel) rfl
theorem wi_311_15 : ri (rt_P sc fm) 311 15 (.getfield 198) (18) := ri_of (by decide +kernel) rfl
theorem wi_311_18 : ri (rt_P sc fm) 311 18 (.iload_n 2) (19) := ri_of (by decide +kernel) rfl
theorem wi_311_19 : ri (rt_P sc fm) 311 19 (.iaload) (20) := ri_of (by decide +kernel) rfl
theorem wi_311_20 : ri (rt_P sc fm) 311 20 (.iadd) (21) := ri_of (by decide +kernel) rfl
theorem wi_311_21 : ri (rt_P sc fm) 311 21 (.iconst 1) (22) := ri_of (by decide +kernel) rfl
theorem wi_311_22 : ri (rt_P sc fm) 311 22 (.isub) (23) := ri_of (by decide +kernel) rfl
theorem wi_311_23 : ri (rt_P sc fm) 311 23 (.laload) (24) := ri_of (by decide +kernel) rfl
theorem wi_311_24 : ri (rt_P sc fm) 311 24 (.lstore_n 3) (25) := ri_of (by decide +kernel) rfl
theorem wi_311_25 : ri (rt_P sc fm) 311 25 (.iload_n 1) (26) := ri_of (by decide +kernel) rfl
theorem wi_311_26 : ri (rt_P sc fm) 311 26 (.ifCond .ne 24) (29) := ri_of (by decide +kernel) rfl
theorem wi_311_29 : ri (rt_P sc fm) 311 29 (.aload_n 0) (30) := ri_of (by decide +kernel) rfl
theorem wi_311_30 : ri (rt_P sc fm) 311 30 (.getfield 18) (33) := ri_of (by decide +kernel) rfl
theorem wi_311_33 : ri (rt_P sc fm) 311 33 (.iconst 0) (34) := ri_of (by decide +kernel) rfl
theorem wi_311_34 : ri (rt_P sc fm) 311 34 (.iconst 2) (35) := ri_of (by decide +kernel) rfl
theorem wi_311_35 : ri (rt_P sc fm) 311 35 (.iastore) (36) := ri_of (by decide +kernel) rfl
theorem wi_311_36 : ri (rt_P sc fm) 311 36 (.aload_n 0) (37) := ri_of (by decide +kernel) rfl
theorem wi_311_37 : ri (rt_P sc fm) 311 37 (.getfield 18) (40) := ri_of (by decide +kernel) rfl
theorem wi_311_4 : ri (rt_P sc fm) 311 4 (.iload_n 1) (5) := ri_of (by decide +kernel) rfl
theorem wi_311_40 : ri (rt_P sc fm) 311 40 (.iconst 1) (41) := ri_of (by decide +kernel) rfl
theorem wi_311_41 : ri (rt_P sc fm) 311 41 (.lload_n 3) (42) := ri_of (by decide +kernel) rfl
theorem wi_311_42 : ri (rt_P sc fm) 311 42 (.l2i) (43) := ri_of (by decide +kernel) rfl
theorem wi_311_43 : ri (rt_P sc fm) 311 43 (.iastore) (44) := ri_of (by decide +kernel) rfl
theorem wi_311_44 : ri (rt_P sc fm) 311 44 (.aload_n 0) (45) := ri_of (by decide +kernel) rfl
theorem wi_311_45 : ri (rt_P sc fm) 311 45 (.lload_n 3) (46) := ri_of (by decide +kernel) rfl
theorem wi_311_46 : ri (rt_P sc fm) 311 46 (.putfield 207) (49) := ri_of (by decide +kernel) rfl
theorem wi_311_49 : ri (rt_P sc fm) 311 49 (.return_) (50) := ri_of (by decide +kernel) rfl
theorem wi_311_5 : ri (rt_P sc fm) 311 5 (.bipush 16) (7) := ri_of (by decide +kernel) rfl
theorem wi_311_50 : ri (rt_P sc fm) 311 50 (.aload_n 0) (51) := ri_of (by decide +kernel) rfl
theorem wi_311_51 : ri (rt_P sc fm) 311 51 (.dup) (52) := ri_of (by decide +kernel) rfl
theorem wi_311_52 : ri (rt_P sc fm) 311 52 (.getfield 99) (55) := ri_of (by decide +kernel) rfl
theorem wi_311_55 : ri (rt_P sc fm) 311 55 (.iconst 1) (56) := ri_of (by decide +kernel) rfl
theorem wi_311_56 : ri (rt_P sc fm) 311 56 (.isub) (57) := ri_of (by decide +kernel) rfl
theorem wi_311_57 : ri (rt_P sc fm) 311 57 (.putfield 99) (60) := ri_of (by decide +kernel) rfl
theorem wi_311_60 : ri (rt_P sc fm) 311 60 (.iload_n 1) (61) := ri_of (by decide +kernel) rfl
theorem wi_311_61 : ri (rt_P sc fm) 311 61 (.iconst 1) (62) := ri_of (by decide +kernel) rfl
theorem wi_311_62 : ri (rt_P sc fm) 311 62 (.isub) (63) := ri_of (by decide +kernel) rfl
theorem wi_311_63 : ri (rt_P sc fm) 311 63 (.istore 5) (65) := ri_of (by decide +kernel) rfl
theorem wi_311_65 : ri (rt_P sc fm) 311 65 (.aload_n 0) (66) := ri_of (by decide +kernel) rfl
theorem wi_311_66 : ri (rt_P sc fm) 311 66 (.getfield 38) (69) := ri_of (by decide +kernel) rfl
theorem wi_311_69 : ri (rt_P sc fm) 311 69 (.getfield 121) (72) := ri_of (by decide +kernel) rfl
theorem wi_311_7 : ri (rt_P sc fm) 311 7 (.imul) (8) := ri_of (by decide +kernel) rfl
theorem wi_311_72 : ri (rt_P sc fm) 311 72 (.aload_n 0) (73) := ri_of (by decide +kernel) rfl
theorem wi_311_73 : ri (rt_P sc fm) 311 73 (.getfield 21) (76) := ri_of (by decide +kernel) rfl
theorem wi_311_76 : ri (rt_P sc fm) 311 76 (.iload 5) (78) := ri_of (by decide +kernel) rfl
theorem wi_311_78 : ri (rt_P sc fm) 311 78 (.iaload) (79) := ri_of (by decide +kernel) rfl
theorem wi_311_79 : ri (rt_P sc fm) 311 79 (.iaload) (80) := ri_of (by decide +kernel) rfl
theorem wi_311_8 : ri (rt_P sc fm) 311 8 (.bipush 8) (10) := ri_of (by decide +kernel) rfl
theorem wi_311_80 : ri (rt_P sc fm) 311 80 (.aload_n 0) (81) := ri_of (by decide +kernel) rfl
theorem wi_311_81 : ri (rt_P sc fm) 311 81 (.getfield 24) (84) := ri_of (by decide +kernel) rfl
theorem wi_311_84 : ri (rt_P sc fm) 311 84 (.iload 5) (86) := ri_of (by decide +kernel) rfl
theorem wi_311_86 : ri (rt_P sc fm) 311 86 (.iaload) (87) := ri_of (by decide +kernel) rfl
theorem wi_311_87 : ri (rt_P sc fm) 311 87 (.iadd) (88) := ri_of (by decide +kernel) rfl
theorem wi_311_88 : ri (rt_P sc fm) 311 88 (.istore 6) (90) := ri_of (by decide +kernel) rfl
theorem wi_311_90 : ri (rt_P sc fm) 311 90 (.aload_n 0) (91) := ri_of (by decide +kernel) rfl
theorem wi_311_91 : ri (rt_P sc fm) 311 91 (.getfield 27) (94) := ri_of (by decide +kernel) rfl
theorem wi_311_94 : ri (rt_P sc fm) 311 94 (.iload 5) (96) := ri_of (by decide +kernel) rfl
theorem wi_311_96 : ri (rt_P sc fm) 311 96 (.bipush 16) (98) := ri_of (by decide +kernel) rfl
theorem wi_311_98 : ri (rt_P sc fm) 311 98 (.imul) (99) := ri_of (by decide +kernel) rfl
theorem wi_311_99 : ri (rt_P sc fm) 311 99 (.bipush 8) (101) := ri_of (by decide +kernel) rfl
theorem wp_311_207 : rx_pt (rt_P sc fm) 311 207 = some (11, 13, .long) := (by decide +kernel : rt_pt 311 207 = some (11, 13, .long))
theorem wp_311_99 : rx_pt (rt_P sc fm) 311 99 = some (11, 10, .int) := (by decide +kernel : rt_pt 311 99 = some (11, 10, .int))
theorem wr_311 : rx_rt (rt_P sc fm) 311 = none := (by decide +kernel : rt_rt 311 = none)
/-- MarkHouse$Run.leave(II)V -/
def d_311 (n : Nat) (a1 : Int32) (a2 : Int32) (c : cS) : Option (cS) :=
  if ib a2 1024 then
  if ib ((((a1 * 16) + 8) + (c.1 125 (ix a2))) - 1) 192 then
  lt ((c.2 165 (ix ((((a1 * 16) + 8) + (c.1 125 (ix a2))) - 1))) : Int64) (fun v4 =>
  if a1 = 0 then
    if ib 0 12 then
    lt (pI c 162 (ix 0) 2) (fun c27 =>
    if ib 1 12 then
    lt (pI c27 162 (ix 1) ((v4 : Int64).toInt32)) (fun c30 =>
    lt (pL c30 159 13 v4) (fun c32 =>
    some c32))
    else none)
    else none
  else
    lt (pI c 159 10 ((c.1 159 10) - 1)) (fun c6 =>
    lt ((a1 - 1) : Int32) (fun v9 =>
    if ib v9 12 then
    if ib (c6.1 163 (ix v9)) 96 then
    if ib v9 12 then
    lt (((c6.1 119 (ix (c6.1 163 (ix v9)))) + (c6.1 164 (ix v9))) : Int32) (fun v15 =>
    if ib v15 1024 then
    Option.bind (d_165 n v15 c6) (fun v18 =>
    if ib ((((v9 * 16) + 8) + (c6.1 125 (ix v15))) - v18) 192 then
    lt (pL c6 165 (ix ((((v9 * 16) + 8) + (c6.1 125 (ix v15))) - v18)) v4) (fun c20 =>
    if ib v9 12 then
    if ib v9 12 then
    lt (pI c20 164 (ix v9) ((c20.1 164 (ix v9)) + 1)) (fun c24 =>
    some c24)
    else none
    else none)
    else none)
    else none)
    else none
    else none
    else none)))
  else none
  else none
set_option maxRecDepth 100000 in
set_option maxHeartbeats 4000000 in
theorem sp_311 {F Lo n : Nat} {a1 : Int32} {a2 : Int32} {c y : cS} {w : cW} {K : cS → Prop} {Q : ((Option Value) ⊕ String) → List va_E → Prop} (hw : rOK fm w) (hF : 1 ≤ F) (hLo : 21 ≤ Lo)  (h : wp (d_311 n a1 a2 c) K) (hQ : ∀ r, K r → Q (.inl none) (hq true r y w)) : rs (rt_P sc fm) 311 F Lo 0 [(0, .ref 159), (1, .int a1), (2, .int a2)] [] (hq true c y w) Q := by
  unfold d_311 at h
  obtain ⟨lv, elv⟩ : ∃ lv : rx_L, lv = [(0, .ref 159), (1, .int a1), (2, .int a2)] := ⟨_, rfl⟩
  rw [← elv]
  have l0 : rx_ld lv 0 = some (.ref 159) := by rw [elv]; rfl
  have l1 : rx_ld lv 1 = some (.int a1) := by rw [elv]; rfl
  have l2 : rx_ld lv 2 = some (.int a2) := by rw [elv]; rfl
  refine rs_aldn wi_311_0 l0 ?_
  refine dq_gr wi_311_1 wf_311_27 tf_159_9 ?_
  refine rs_ildn wi_311_4 l1 ?_
  refine rs_pure wi_311_5 rfl ?_
  refine rs_topi (v := 16) (by decide) ?_
  refine rs_pure wi_311_7 rfl ?_
  refine rs_pure wi_311_8 rfl ?_
  refine rs_topi (v := 8) (by decide) ?_
  refine rs_pure wi_311_10 rfl ?_
  refine rs_aldn wi_311_11 l0 ?_
  refine dq_gr wi_311_12 wf_311_38 tf_159_1 ?_
  refine dq_gr wi_311_15 wf_311_198 tf_114_12 ?_
  refine rs_ildn wi_311_18 l2 ?_
  obtain ⟨g1, h⟩ := wp_gd h
  refine dq_iald wi_311_19 t_125 g1 ?_
  refine rs_pure wi_311_20 rfl ?_
  refine rs_pure wi_311_21 rfl ?_
  refine rs_topi (v := 1) (by decide) ?_
  refine rs_pure wi_311_22 rfl ?_
  obtain ⟨g2, h⟩ := wp_gd h
  refine dq_lald wi_311_23 t_165 g2 ?_
  obtain ⟨v4, e5, h⟩ := wp_lt h
  refine rs_topl e5 ?_
  refine dl_lstn wi_311_24 rfl (fun lv l3 t3 => ?_)
  have l0 := t3 _ _ (by decide) (by decide) (Or.inl rfl) l0
  have l1 := t3 _ _ (by decide) (by decide) (Or.inl rfl) l1
  refine rs_ildn wi_311_25 l1 ?_
  refine rs_ifne (tg := 50) wi_311_26 ⟨by decide, by decide⟩ (fun q => ?_) (fun q => ?_)
  ·
    have h := wp_neg h q
    refine rs_aldn wi_311_50 l0 ?_
    refine rs_pure wi_311_51 rfl ?_
    refine dq_gi wi_311_52 wf_311_99 tf_159_10 ?_
    refine rs_pure wi_311_55 rfl ?_
    refine rs_topi (v := 1) (by decide) ?_
    refine rs_pure wi_311_56 rfl ?_
    obtain ⟨c6, e7, h⟩ := wp_lt h
    refine dq_pi wi_311_57 wp_311_99 tf_159_10 rfl rfl e7 ?_
    refine rs_ildn wi_311_60 l1 ?_
    refine rs_pure wi_311_61 rfl ?_
    refine rs_topi (v := 1) (by decide) ?_
    refine rs_pure wi_311_62 rfl ?_
    obtain ⟨v9, e10, h⟩ := wp_lt h
    refine rs_topi e10 ?_
    refine dl_ist wi_311_63 rfl (fun lv l5 t8 => ?_)
    have l0 := t8 _ _ (by decide) (Or.inl rfl) l0
    have l3 := t8 _ _ (by decide) (Or.inr (by decide)) l3
    refine rs_aldn wi_311_65 l0 ?_
    refine dq_gr wi_311_66 wf_311_38 tf_159_1 ?_
    refine dq_gr wi_311_69 wf_311_121 tf_114_5 ?_
    refine rs_aldn wi_311_72 l0 ?_
    refine dq_gr wi_311_73 wf_311_21 tf_159_7 ?_
    refine rs_ild wi_311_76 l5 ?_
    obtain ⟨g11, h⟩ := wp_gd h
    refine dq_iald wi_311_78 t_163 g11 ?_
    obtain ⟨g12, h⟩ := wp_gd h
    refine dq_iald wi_311_79 t_119 g12 ?_
    refine rs_aldn wi_311_80 l0 ?_
    refine dq_gr wi_311_81 wf_311_24 tf_159_8 ?_
    refine rs_ild wi_311_84 l5 ?_
    obtain ⟨g13, h⟩ := wp_gd h
    refine dq_iald wi_311_86 t_164 g13 ?_
    refine rs_pure wi_311_87 rfl ?_
    obtain ⟨v15, e16, h⟩ := wp_lt h
    refine rs_topi e16 ?_
    refine dl_ist wi_311_88 rfl (fun lv l6 t14 => ?_)
    have l0 := t14 _ _ (by decide) (Or.inl rfl) l0
    have l3 := t14 _ _ (by decide) (Or.inr (by decide)) l3
    have l5 := t14 _ _ (by decide) (Or.inl rfl) l5
    refine rs_aldn wi_311_90 l0 ?_
    refine dq_gr wi_311_91 wf_311_27 tf_159_9 ?_
    refine rs_ild wi_311_94 l5 ?_
    refine rs_pure wi_311_96 rfl ?_
    refine rs_topi (v := 16) (by decide) ?_
    refine rs_pure wi_311_98 rfl ?_
    refine rs_pure wi_311_99 rfl ?_
    refine rs_topi (v := 8) (by decide) ?_
    refine rs_pure wi_311_101 rfl ?_
    refine rs_aldn wi_311_102 l0 ?_
    refine dq_gr wi_311_103 wf_311_38 tf_159_1 ?_
    refine dq_gr wi_311_106 wf_311_198 tf_114_12 ?_
    refine rs_ild wi_311_109 l6 ?_
    obtain ⟨g17, h⟩ := wp_gd h
    refine dq_iald wi_311_111 t_125 g17 ?_
    refine rs_pure wi_311_112 rfl ?_
    refine rs_aldn wi_311_113 l0 ?_
    refine dq_gr wi_311_114 wf_311_38 tf_159_1 ?_
    refine rs_ild wi_311_117 l6 ?_
    refine rs_V wi_311_119 wc_311_195 rfl (dq_isa tf_114_0 wa_2_165) (Nat.le_trans (by decide) hF) (ml_le wm_165 (Nat.le_trans (by decide) hLo)) rfl (sp_165 hw (Nat.le_trans (by decide : 0 ≤ 1 - 1) (Nat.sub_le_sub_right hF 1)) (ml_sub wm_165 (Nat.le_trans (by decide : 0 ≤ 21 - 21) (Nat.sub_le_sub_right hLo 21))) (wp_bind h) (fun v18 h => rs_back1 ?_))
    refine rs_pure wi_311_122 rfl ?_
    refine rs_lldn wi_311_123 l3 ?_
    obtain ⟨g19, h⟩ := wp_gd h
    obtain ⟨c20, e21, h⟩ := wp_lt h
    refine dq_last wi_311_124 t_165 g19 e21 ?_
    refine rs_aldn wi_311_125 l0 ?_
    refine dq_gr wi_311_126 wf_311_24 tf_159_8 ?_
    refine rs_ild wi_311_129 l5 ?_
    refine rs_pure wi_311_131 rfl ?_
    obtain ⟨g22, h⟩ := wp_gd h
    refine dq_iald wi_311_132 t_164 g22 ?_
    refine rs_pure wi_311_133 rfl ?_
    refine rs_topi (v := 1) (by decide) ?_
    refine rs_pure wi_311_134 rfl ?_
    obtain ⟨g23, h⟩ := wp_gd h
    obtain ⟨c24, e25, h⟩ := wp_lt h
    refine dq_iast wi_311_135 t_164 g23 e25 ?_
    exact rs_vret wi_311_136 wr_311 (hQ c24 h)
  ·
    have h := wp_pos h q
    refine rs_aldn wi_311_29 l0 ?_
    refine dq_gr wi_311_30 wf_311_18 tf_159_6 ?_
    refine rs_pure wi_311_33 rfl ?_
    refine rs_topi (v := 0) (by decide) ?_
    refine rs_pure wi_311_34 rfl ?_
    refine rs_topi (v := 2) (by decide) ?_
    obtain ⟨g26, h⟩ := wp_gd h
    obtain ⟨c27, e28, h⟩ := wp_lt h
    refine dq_iast wi_311_35 t_162 g26 e28 ?_
    refine rs_aldn wi_311_36 l0 ?_
    refine dq_gr wi_311_37 wf_311_18 tf_159_6 ?_
    refine rs_pure wi_311_40 rfl ?_
    refine rs_topi (v := 1) (by decide) ?_
    refine rs_lldn wi_311_41 l3 ?_
    refine rs_pure wi_311_42 rfl ?_
    obtain ⟨g29, h⟩ := wp_gd h
    obtain ⟨c30, e31, h⟩ := wp_lt h
    refine dq_iast wi_311_43 t_162 g29 e31 ?_
    refine rs_aldn wi_311_44 l0 ?_
    refine rs_lldn wi_311_45 l3 ?_
    obtain ⟨c32, e33, h⟩ := wp_lt h
    refine dq_pl wi_311_46 wp_311_207 tf_159_13 rfl rfl e33 ?_
    exact rs_vret wi_311_49 wr_311 (hQ c32 h)
theorem wi_304_0 : ri (rt_P sc fm) 304 0 (.iload_n 0) (1) := ri_of (by decide +kernel) rfl
theorem wi_304_1 : ri (rt_P sc fm) 304 1 (.sipush 227) (4) := ri_of (by decide +kernel) rfl
theorem wi_304_11 : ri (rt_P sc fm) 304 11 (.if_icmp .eq 10) (14) := ri_of (by decide +kernel) rfl
theorem wi_304_14 : ri (rt_P sc fm) 304 14 (.iload_n 0) (15) := ri_of (by decide +kernel) rfl
theorem wi_304_15 : ri (rt_P sc fm) 304 15 (.sipush 229) (18) := ri_of (by decide +kernel) rfl
theorem wi_304_18 : ri (rt_P sc fm) 304 18 (.if_icmp .ne 7) (21) := ri_of (by decide +kernel) rfl
theorem wi_304_21 : ri (rt_P sc fm) 304 21 (.iconst 1) (22) := ri_of (by decide +kernel) rfl
theorem wi_304_22 : ri (rt_P sc fm) 304 22 (.goto 4) (25) := ri_of (by decide +kernel) rfl
theorem wi_304_25 : ri (rt_P sc fm) 304 25 (.iconst 0) (26) := ri_of (by decide +kernel) rfl
theorem wi_304_26 : ri (rt_P sc fm) 304 26 (.ireturn) (27) := ri_of (by decide +kernel) rfl
theorem wi_304_4 : ri (rt_P sc fm) 304 4 (.if_icmp .eq 17) (7) := ri_of (by decide +kernel) rfl
theorem wi_304_7 : ri (rt_P sc fm) 304 7 (.iload_n 0) (8) := ri_of (by decide +kernel) rfl
theorem wi_304_8 : ri (rt_P sc fm) 304 8 (.sipush 228) (11) := ri_of (by decide +kernel) rfl
theorem wr_304 : rx_rt (rt_P sc fm) 304 = (some FieldType.boolean) := (by decide +kernel : rt_rt 304 = (some FieldType.boolean))
/-- MarkHouse$Run.isBranch(I)Z -/
def d_304 (n : Nat) (a0 : Int32) : Option (Int32) :=
  jn (fun p1 : Int32 =>
    if nb p1 then
    some p1
    else none)
  (fun j26 =>
  jn (fun p3 : Unit =>
    j26 1)
  (fun j21 =>
  if a0 = 227 then
    j21 ()
  else
    if a0 = 228 then
      j21 ()
    else
      if a0 = 229 then
        j21 ()
      else
        j26 0))
set_option maxRecDepth 100000 in
set_option maxHeartbeats 4000000 in
theorem sp_304 {F Lo n : Nat} {a0 : Int32} {L : List va_E} {K : Int32 → Prop} {Q : ((Option Value) ⊕ String) → List va_E → Prop} (hF : 0 ≤ F) (hLo : 0 ≤ Lo)  (h : wp (d_304 n a0) K) (hQ : ∀ r, K r → Q (.inl (some (.int r))) L) : rs (rt_P sc fm) 304 F Lo 0 [(0, .int a0)] [] L Q := by
  unfold d_304 at h
  obtain ⟨lv, elv⟩ : ∃ lv : rx_L, lv = [(0, .int a0)] := ⟨_, rfl⟩
  rw [← elv]
  have l0 : rx_ld lv 0 = some (.int a0) := by rw [elv]; rfl
  refine rs_ildn wi_304_0 l0 ?_
  refine rs_pure wi_304_1 rfl ?_
  refine rs_topi (v := 227) (by decide) ?_
  refine wp_jn (B := fun p1 : Int32 => ∀ lv, rs (rt_P sc fm) 304 F Lo 26 lv [.int p1] L Q) h (fun p1 h lv => ?_) (fun j26 hj26 h => ?_)
  ·
    obtain ⟨g2, h⟩ := wp_gd h
    exact rs_iret wi_304_26 wr_304 (nb_n g2) (hQ p1 h)
  refine wp_jn (B := fun p3 : Unit => ∀ lv, rs (rt_P sc fm) 304 F Lo 21 lv [] L Q) h (fun p3 h lv => ?_) (fun j21 hj21 h => ?_)
  ·
    refine rs_pure wi_304_21 rfl ?_
    refine rs_topi (v := 1) (by decide) ?_
    refine rs_goto (tg := 26) wi_304_22 ⟨by decide, by decide⟩ ?_
    exact hj26 _ h _
  refine rs_iceq (tg := 21) wi_304_4 ⟨by decide, by decide⟩ (fun q => ?_) (fun q => ?_)
  ·
    have h := wp_pos h q
    exact hj21 _ h _
  ·
    have h := wp_neg h q
    refine rs_ildn wi_304_7 l0 ?_
    refine rs_pure wi_304_8 rfl ?_
    refine rs_topi (v := 228) (by decide) ?_
    refine rs_iceq (tg := 21) wi_304_11 ⟨by decide, by decide⟩ (fun q => ?_) (fun q => ?_)
    ·
      have h := wp_pos h q
      exact hj21 _ h _
    ·
      have h := wp_neg h q
      refine rs_ildn wi_304_14 l0 ?_
      refine rs_pure wi_304_15 rfl ?_
      refine rs_topi (v := 229) (by decide) ?_
      refine rs_icne (tg := 25) wi_304_18 ⟨by decide, by decide⟩ (fun q => ?_) (fun q => ?_)
      ·
        have h := wp_neg h q
        refine rs_pure wi_304_25 rfl ?_
        refine rs_topi (v := 0) (by decide) ?_
        exact hj26 _ h _
      ·
        have h := wp_pos h q
        exact hj21 _ h _
theorem wc_312_174 : rx_ct (rt_P sc fm) 312 174 = some (0, 305, 3) := (by decide +kernel : rt_ct 312 174 = some (0, 305, 3))
theorem wf_312_128 : rx_ft (rt_P sc fm) 312 128 = some (2, 8) := (by decide +kernel : rt_ft 312 128 = some (2, 8))
theorem wf_312_198 : rx_ft (rt_P sc fm) 312 198 = some (2, 12) := (by decide +kernel : rt_ft 312 198 = some (2, 12))
theorem wf_312_201 : rx_ft (rt_P sc fm) 312 201 = some (2, 10) := (by decide +kernel : rt_ft 312 201 = some (2, 10))
theorem wf_312_210 : rx_ft (rt_P sc fm) 312 210 = some (2, 9) := (by decide +kernel : rt_ft 312 210 = some (2, 9))
theorem wf_312_27 : rx_ft (rt_P sc fm) 312 27 = some (11, 9) := (by decide +kernel : rt_ft 312 27 = some (11, 9))
theorem wf_312_38 : rx_ft (rt_P sc fm) 312 38 = some (11, 1) := (by decide +kernel : rt_ft 312 38 = some (11, 1))
theorem wi_312_0 : ri (rt_P sc fm) 312 0 (.aload_n 0) (1) := ri_of (by decide +kernel) rfl
theorem wi_312_1 : ri (rt_P sc fm) 312 1 (.getfield 38) (4) := ri_of (by decide +kernel) rfl
theorem wi_312_12 : ri (rt_P sc fm) 312 12 (.if_icmp .ne 5) (15) := ri_of (by decide +kernel) rfl
theorem wi_312_15 : ri (rt_P sc fm) 312 15 (.iconst 1) (16) := ri_of (by decide +kernel) rfl
theorem wi_312_16 : ri (rt_P sc fm) 312 16 (.ireturn) (17) := ri_of (by decide +kernel) rfl
theorem wi_312_17 : ri (rt_P sc fm) 312 17 (.aload_n 0) (18) := ri_of (by decide +kernel) rfl
theorem wi_312_18 : ri (rt_P sc fm) 312 18 (.getfield 27) (21) := ri_of (by decide +kernel) rfl
theorem wi_312_21 : ri (rt_P sc fm) 312 21 (.iload_n 1) (22) := ri_of (by decide +kernel) rfl
theorem wi_312_22 : ri (rt_P sc fm) 312 22 (.bipush 16) (24) := ri_of (by decide +kernel) rfl
theorem wi_312_24 : ri (rt_P sc fm) 312 24 (.imul) (25) := ri_of (by decide +kernel) rfl
theorem wi_312_25 : ri (rt_P sc fm) 312 25 (.bipush 8) (27) := ri_of (by decide +kernel) rfl
theorem wi_312_27 : ri (rt_P sc fm) 312 27 (.iadd) (28) := ri_of (by decide +kernel) rfl
theorem wi_312_28 : ri (rt_P sc fm) 312 28 (.aload_n 0) (29) := ri_of (by decide +kernel) rfl
theorem wi_312_29 : ri (rt_P sc fm) 312 29 (.getfield 38) (32) := ri_of (by decide +kernel) rfl
theorem wi_312_32 : ri (rt_P sc fm) 312 32 (.getfield 198) (35) := ri_of (by decide +kernel) rfl
theorem wi_312_35 : ri (rt_P sc fm) 312 35 (.iload_n 2) (36) := ri_of (by decide +kernel) rfl
theorem wi_312_36 : ri (rt_P sc fm) 312 36 (.iaload) (37) := ri_of (by decide +kernel) rfl
theorem wi_312_37 : ri (rt_P sc fm) 312 37 (.iadd) (38) := ri_of (by decide +kernel) rfl
theorem wi_312_38 : ri (rt_P sc fm) 312 38 (.iconst 1) (39) := ri_of (by decide +kernel) rfl
theorem wi_312_39 : ri (rt_P sc fm) 312 39 (.isub) (40) := ri_of (by decide +kernel) rfl
theorem wi_312_4 : ri (rt_P sc fm) 312 4 (.getfield 128) (7) := ri_of (by decide +kernel) rfl
theorem wi_312_40 : ri (rt_P sc fm) 312 40 (.laload) (41) := ri_of (by decide +kernel) rfl
theorem wi_312_41 : ri (rt_P sc fm) 312 41 (.lstore_n 3) (42) := ri_of (by decide +kernel) rfl
theorem wi_312_42 : ri (rt_P sc fm) 312 42 (.aload_n 0) (43) := ri_of (by decide +kernel) rfl
theorem wi_312_43 : ri (rt_P sc fm) 312 43 (.getfield 38) (46) := ri_of (by decide +kernel) rfl
theorem wi_312_46 : ri (rt_P sc fm) 312 46 (.getfield 128) (49) := ri_of (by decide +kernel) rfl
theorem wi_312_49 : ri (rt_P sc fm) 312 49 (.iload_n 2) (50) := ri_of (by decide +kernel) rfl
theorem wi_312_50 : ri (rt_P sc fm) 312 50 (.iaload) (51) := ri_of (by decide +kernel) rfl
theorem wi_312_51 : ri (rt_P sc fm) 312 51 (.sipush 228) (54) := ri_of (by decide +kernel) rfl
theorem wi_312_54 : ri (rt_P sc fm) 312 54 (.if_icmp .ne 16) (57) := ri_of (by decide +kernel) rfl
theorem wi_312_57 : ri (rt_P sc fm) 312 57 (.lload_n 3) (58) := ri_of (by decide +kernel) rfl
theorem wi_312_58 : ri (rt_P sc fm) 312 58 (.l2i) (59) := ri_of (by decide +kernel) rfl
theorem wi_312_59 : ri (rt_P sc fm) 312 59 (.ifCond .ne 7) (62) := ri_of (by decide +kernel) rfl
theorem wi_312_62 : ri (rt_P sc fm) 312 62 (.iconst 1) (63) := ri_of (by decide +kernel) rfl
theorem wi_312_63 : ri (rt_P sc fm) 312 63 (.goto 30) (66) := ri_of (by decide +kernel) rfl
theorem wi_312_66 : ri (rt_P sc fm) 312 66 (.iconst 0) (67) := ri_of (by decide +kernel) rfl
theorem wi_312_67 : ri (rt_P sc fm) 312 67 (.goto 26) (70) := ri_of (by decide +kernel) rfl
theorem wi_312_7 : ri (rt_P sc fm) 312 7 (.iload_n 2) (8) := ri_of (by decide +kernel) rfl
theorem wi_312_70 : ri (rt_P sc fm) 312 70 (.aload_n 0) (71) := ri_of (by decide +kernel) rfl
theorem wi_312_71 : ri (rt_P sc fm) 312 71 (.lload_n 3) (72) := ri_of (by decide +kernel) rfl
theorem wi_312_72 : ri (rt_P sc fm) 312 72 (.aload_n 0) (73) := ri_of (by decide +kernel) rfl
theorem wi_312_73 : ri (rt_P sc fm) 312 73 (.getfield 38) (76) := ri_of (by decide +kernel) rfl
theorem wi_312_76 : ri (rt_P sc fm) 312 76 (.getfield 201) (79) := ri_of (by decide +kernel) rfl
theorem wi_312_79 : ri (rt_P sc fm) 312 79 (.iload_n 2) (80) := ri_of (by decide +kernel) rfl
theorem wi_312_8 : ri (rt_P sc fm) 312 8 (.iaload) (9) := ri_of (by decide +kernel) rfl
theorem wi_312_80 : ri (rt_P sc fm) 312 80 (.iaload) (81) := ri_of (by decide +kernel) rfl
theorem wi_312_81 : ri (rt_P sc fm) 312 81 (.aload_n 0) (82) := ri_of (by decide +kernel) rfl
theorem wi_312_82 : ri (rt_P sc fm) 312 82 (.getfield 38) (85) := ri_of (by decide +kernel) rfl
theorem wi_312_85 : ri (rt_P sc fm) 312 85 (.getfield 210) (88) := ri_of (by decide +kernel) rfl
theorem wi_312_88 : ri (rt_P sc fm) 312 88 (.iload_n 2) (89) := ri_of (by decide +kernel) rfl
theorem wi_312_89 : ri (rt_P sc fm) 312 89 (.iaload) (90) := ri_of (by decide +kernel) rfl
theorem wi_312_9 : ri (rt_P sc fm) 312 9 (.sipush 227) (12) := ri_of (by decide +kernel) rfl
theorem wi_312_90 : ri (rt_P sc fm) 312 90 (.invokevirtual 174) (93) := ri_of (by decide +kernel) rfl
theorem wi_312_93 : ri (rt_P sc fm) 312 93 (.ireturn) (94) := ri_of (by decide +kernel) rfl
theorem wr_312 : rx_rt (rt_P sc fm) 312 = (some FieldType.boolean) := (by decide +kernel : rt_rt 312 = (some FieldType.boolean))
/-- MarkHouse$Run.doBranch(II)Z -/
def d_312 (n : Nat) (a1 : Int32) (a2 : Int32) (c : cS) : Option (Int32) :=
  if ib a2 1024 then
  if (c.1 121 (ix a2)) = 227 then
    some 1
  else
    if ib a2 1024 then
    if ib ((((a1 * 16) + 8) + (c.1 125 (ix a2))) - 1) 192 then
    lt ((c.2 165 (ix ((((a1 * 16) + 8) + (c.1 125 (ix a2))) - 1))) : Int64) (fun v5 =>
    if ib a2 1024 then
    jn (fun p8 : Int32 =>
      if nb p8 then
      some p8
      else none)
    (fun j93 =>
    if (c.1 121 (ix a2)) = 228 then
      if (v5 : Int64).toInt32 = 0 then
        j93 1
      else
        j93 0
    else
      if ib a2 1024 then
      if ib a2 1024 then
      Option.bind (d_305 n v5 (c.1 123 (ix a2)) (c.1 122 (ix a2)) c) (fun v12 =>
      j93 v12)
      else none
      else none)
    else none)
    else none
    else none
  else none
set_option maxRecDepth 100000 in
set_option maxHeartbeats 4000000 in
theorem sp_312 {F Lo n : Nat} {a1 : Int32} {a2 : Int32} {c y : cS} {w : cW} {K : Int32 → Prop} {Q : ((Option Value) ⊕ String) → List va_E → Prop} (hw : rOK fm w) (hF : 2 ≤ F) (hLo : 46 ≤ Lo)  (h : wp (d_312 n a1 a2 c) K) (hQ : ∀ r, K r → Q (.inl (some (.int r))) (hq true c y w)) : rs (rt_P sc fm) 312 F Lo 0 [(0, .ref 159), (1, .int a1), (2, .int a2)] [] (hq true c y w) Q := by
  unfold d_312 at h
  obtain ⟨lv, elv⟩ : ∃ lv : rx_L, lv = [(0, .ref 159), (1, .int a1), (2, .int a2)] := ⟨_, rfl⟩
  rw [← elv]
  have l0 : rx_ld lv 0 = some (.ref 159) := by rw [elv]; rfl
  have l1 : rx_ld lv 1 = some (.int a1) := by rw [elv]; rfl
  have l2 : rx_ld lv 2 = some (.int a2) := by rw [elv]; rfl
  refine rs_aldn wi_312_0 l0 ?_
  refine dq_gr wi_312_1 wf_312_38 tf_159_1 ?_
  refine dq_gr wi_312_4 wf_312_128 tf_114_8 ?_
  refine rs_ildn wi_312_7 l2 ?_
  obtain ⟨g1, h⟩ := wp_gd h
  refine dq_iald wi_312_8 t_121 g1 ?_
  refine rs_pure wi_312_9 rfl ?_
  refine rs_topi (v := 227) (by decide) ?_
  refine rs_icne (tg := 17) wi_312_12 ⟨by decide, by decide⟩ (fun q => ?_) (fun q => ?_)
  ·
    have h := wp_neg h q
    refine rs_aldn wi_312_17 l0 ?_
    refine dq_gr wi_312_18 wf_312_27 tf_159_9 ?_
    refine rs_ildn wi_312_21 l1 ?_
    refine rs_pure wi_312_22 rfl ?_
    refine rs_topi (v := 16) (by decide) ?_
    refine rs_pure wi_312_24 rfl ?_
    refine rs_pure wi_312_25 rfl ?_
    refine rs_topi (v := 8) (by decide) ?_
    refine rs_pure wi_312_27 rfl ?_
    refine rs_aldn wi_312_28 l0 ?_
    refine dq_gr wi_312_29 wf_312_38 tf_159_1 ?_
    refine dq_gr wi_312_32 wf_312_198 tf_114_12 ?_
    refine rs_ildn wi_312_35 l2 ?_
    obtain ⟨g2, h⟩ := wp_gd h
    refine dq_iald wi_312_36 t_125 g2 ?_
    refine rs_pure wi_312_37 rfl ?_
    refine rs_pure wi_312_38 rfl ?_
    refine rs_topi (v := 1) (by decide) ?_
    refine rs_pure wi_312_39 rfl ?_
    obtain ⟨g3, h⟩ := wp_gd h
    refine dq_lald wi_312_40 t_165 g3 ?_
    obtain ⟨v5, e6, h⟩ := wp_lt h
    refine rs_topl e6 ?_
    refine dl_lstn wi_312_41 rfl (fun lv l3 t4 => ?_)
    have l0 := t4 _ _ (by decide) (by decide) (Or.inl rfl) l0
    have l2 := t4 _ _ (by decide) (by decide) (Or.inl rfl) l2
    refine rs_aldn wi_312_42 l0 ?_
    refine dq_gr wi_312_43 wf_312_38 tf_159_1 ?_
    refine dq_gr wi_312_46 wf_312_128 tf_114_8 ?_
    refine rs_ildn wi_312_49 l2 ?_
    obtain ⟨g7, h⟩ := wp_gd h
    refine dq_iald wi_312_50 t_121 g7 ?_
    refine rs_pure wi_312_51 rfl ?_
    refine rs_topi (v := 228) (by decide) ?_
    refine wp_jn (B := fun p8 : Int32 => ∀ lv, rs (rt_P sc fm) 312 F Lo 93 lv [.int p8] (hq true c y w) Q) h (fun p8 h lv => ?_) (fun j93 hj93 h => ?_)
    ·
      obtain ⟨g9, h⟩ := wp_gd h
      exact rs_iret wi_312_93 wr_312 (nb_n g9) (hQ p8 h)
    refine rs_icne (tg := 70) wi_312_54 ⟨by decide, by decide⟩ (fun q => ?_) (fun q => ?_)
    ·
      have h := wp_neg h q
      refine rs_aldn wi_312_70 l0 ?_
      refine rs_lldn wi_312_71 l3 ?_
      refine rs_aldn wi_312_72 l0 ?_
      refine dq_gr wi_312_73 wf_312_38 tf_159_1 ?_
      refine dq_gr wi_312_76 wf_312_201 tf_114_10 ?_
      refine rs_ildn wi_312_79 l2 ?_
      obtain ⟨g10, h⟩ := wp_gd h
      refine dq_iald wi_312_80 t_123 g10 ?_
      refine rs_aldn wi_312_81 l0 ?_
      refine dq_gr wi_312_82 wf_312_38 tf_159_1 ?_
      refine dq_gr wi_312_85 wf_312_210 tf_114_9 ?_
      refine rs_ildn wi_312_88 l2 ?_
      obtain ⟨g11, h⟩ := wp_gd h
      refine dq_iald wi_312_89 t_122 g11 ?_
      refine rs_V wi_312_90 wc_312_174 rfl (dq_isa tf_159_0 wa_11_305) (Nat.le_trans (by decide) hF) (ml_le wm_305 (Nat.le_trans (by decide) hLo)) rfl (sp_305 hw (Nat.le_trans (by decide : 1 ≤ 2 - 1) (Nat.sub_le_sub_right hF 1)) (ml_sub wm_305 (Nat.le_trans (by decide : 22 ≤ 46 - 24) (Nat.sub_le_sub_right hLo 24))) (wp_bind h) (fun v12 h => rs_back1 ?_))
      exact hj93 _ h _
    ·
      have h := wp_pos h q
      refine rs_lldn wi_312_57 l3 ?_
      refine rs_pure wi_312_58 rfl ?_
      refine rs_ifne (tg := 66) wi_312_59 ⟨by decide, by decide⟩ (fun q => ?_) (fun q => ?_)
      ·
        have h := wp_neg h q
        refine rs_pure wi_312_66 rfl ?_
        refine rs_topi (v := 0) (by decide) ?_
        refine rs_goto (tg := 93) wi_312_67 ⟨by decide, by decide⟩ ?_
        exact hj93 _ h _
      ·
        have h := wp_pos h q
        refine rs_pure wi_312_62 rfl ?_
        refine rs_topi (v := 1) (by decide) ?_
        refine rs_goto (tg := 93) wi_312_63 ⟨by decide, by decide⟩ ?_
        exact hj93 _ h _
  ·
    have h := wp_pos h q
    refine rs_pure wi_312_15 rfl ?_
    refine rs_topi (v := 1) (by decide) ?_
    exact rs_iret wi_312_16 wr_312 (nb_n (by decide)) (hQ 1 h)
theorem wc_315_154 : rx_ct (rt_P sc fm) 315 154 = some (11, 355, 2) := (by decide +kernel : rt_ct 315 154 = some (11, 355, 2))
theorem wc_315_228 : rx_ct (rt_P sc fm) 315 228 = some (0, 238, 2) := (by decide +kernel : rt_ct 315 228 = some (0, 238, 2))
theorem wc_315_92 : rx_ct (rt_P sc fm) 315 92 = some (11, 356, 3) := (by decide +kernel : rt_ct 315 92 = some (11, 356, 3))
theorem wf_315_34 : rx_ft (rt_P sc fm) 315 34 = some (11, 0) := (by decide +kernel : rt_ft 315 34 = some (11, 0))
theorem wf_315_78 : rx_ft (rt_P sc fm) 315 78 = some (9, 2) := (by decide +kernel : rt_ft 315 78 = some (9, 2))
theorem wf_315_83 : rx_ft (rt_P sc fm) 315 83 = some (9, 1) := (by decide +kernel : rt_ft 315 83 = some (9, 1))
theorem wi_315_0 : ri (rt_P sc fm) 315 0 (.lload_n 2) (1) := ri_of (by decide +kernel) rfl
theorem wi_315_1 : ri (rt_P sc fm) 315 1 (.l2i) (2) := ri_of (by decide +kernel) rfl
theorem wi_315_10 : ri (rt_P sc fm) 315 10 (.sipush 222) (13) := ri_of (by decide +kernel) rfl
theorem wi_315_101 : ri (rt_P sc fm) 315 101 (.invokestatic 154) (104) := ri_of (by decide +kernel) rfl
theorem wi_315_104 : ri (rt_P sc fm) 315 104 (.invokevirtual 228) (107) := ri_of (by decide +kernel) rfl
theorem wi_315_107 : ri (rt_P sc fm) 315 107 (.invokestatic 92) (110) := ri_of (by decide +kernel) rfl
theorem wi_315_110 : ri (rt_P sc fm) 315 110 (.lstore 9) (112) := ri_of (by decide +kernel) rfl
theorem wi_315_112 : ri (rt_P sc fm) 315 112 (.iinc 11 1) (115) := ri_of (by decide +kernel) rfl
theorem wi_315_115 : ri (rt_P sc fm) 315 115 (.goto (-57)) (118) := ri_of (by decide +kernel) rfl
theorem wi_315_118 : ri (rt_P sc fm) 315 118 (.lload 9) (120) := ri_of (by decide +kernel) rfl
theorem wi_315_120 : ri (rt_P sc fm) 315 120 (.lreturn) (121) := ri_of (by decide +kernel) rfl
theorem wi_315_13 : ri (rt_P sc fm) 315 13 (.if_icmp .ne 11) (16) := ri_of (by decide +kernel) rfl
theorem wi_315_16 : ri (rt_P sc fm) 315 16 (.iload 6) (18) := ri_of (by decide +kernel) rfl
theorem wi_315_18 : ri (rt_P sc fm) 315 18 (.iload 7) (20) := ri_of (by decide +kernel) rfl
theorem wi_315_2 : ri (rt_P sc fm) 315 2 (.istore 6) (4) := ri_of (by decide +kernel) rfl
theorem wi_315_20 : ri (rt_P sc fm) 315 20 (.iadd) (21) := ri_of (by decide +kernel) rfl
theorem wi_315_21 : ri (rt_P sc fm) 315 21 (.goto 23) (24) := ri_of (by decide +kernel) rfl
theorem wi_315_24 : ri (rt_P sc fm) 315 24 (.iload_n 1) (25) := ri_of (by decide +kernel) rfl
theorem wi_315_25 : ri (rt_P sc fm) 315 25 (.sipush 223) (28) := ri_of (by decide +kernel) rfl
theorem wi_315_28 : ri (rt_P sc fm) 315 28 (.if_icmp .ne 11) (31) := ri_of (by decide +kernel) rfl
theorem wi_315_31 : ri (rt_P sc fm) 315 31 (.iload 6) (33) := ri_of (by decide +kernel) rfl
theorem wi_315_33 : ri (rt_P sc fm) 315 33 (.iload 7) (35) := ri_of (by decide +kernel) rfl
theorem wi_315_35 : ri (rt_P sc fm) 315 35 (.isub) (36) := ri_of (by decide +kernel) rfl
theorem wi_315_36 : ri (rt_P sc fm) 315 36 (.goto 8) (39) := ri_of (by decide +kernel) rfl
theorem wi_315_39 : ri (rt_P sc fm) 315 39 (.iload 6) (41) := ri_of (by decide +kernel) rfl
theorem wi_315_4 : ri (rt_P sc fm) 315 4 (.lload 4) (6) := ri_of (by decide +kernel) rfl
theorem wi_315_41 : ri (rt_P sc fm) 315 41 (.iload 7) (43) := ri_of (by decide +kernel) rfl
theorem wi_315_43 : ri (rt_P sc fm) 315 43 (.imul) (44) := ri_of (by decide +kernel) rfl
theorem wi_315_44 : ri (rt_P sc fm) 315 44 (.istore 8) (46) := ri_of (by decide +kernel) rfl
theorem wi_315_46 : ri (rt_P sc fm) 315 46 (.iload 8) (48) := ri_of (by decide +kernel) rfl
theorem wi_315_48 : ri (rt_P sc fm) 315 48 (.i2l) (49) := ri_of (by decide +kernel) rfl
theorem wi_315_49 : ri (rt_P sc fm) 315 49 (.ldc2_w 65) (52) := ri_of (by decide +kernel) rfl
theorem wi_315_52 : ri (rt_P sc fm) 315 52 (.land) (53) := ri_of (by decide +kernel) rfl
theorem wi_315_53 : ri (rt_P sc fm) 315 53 (.lstore 9) (55) := ri_of (by decide +kernel) rfl
theorem wi_315_55 : ri (rt_P sc fm) 315 55 (.iconst 0) (56) := ri_of (by decide +kernel) rfl
theorem wi_315_56 : ri (rt_P sc fm) 315 56 (.istore 11) (58) := ri_of (by decide +kernel) rfl
theorem wi_315_58 : ri (rt_P sc fm) 315 58 (.iload 11) (60) := ri_of (by decide +kernel) rfl
theorem wi_315_6 : ri (rt_P sc fm) 315 6 (.l2i) (7) := ri_of (by decide +kernel) rfl
theorem wi_315_60 : ri (rt_P sc fm) 315 60 (.aload_n 0) (61) := ri_of (by decide +kernel) rfl
theorem wi_315_61 : ri (rt_P sc fm) 315 61 (.getfield 34) (64) := ri_of (by decide +kernel) rfl
theorem wi_315_64 : ri (rt_P sc fm) 315 64 (.getfield 78) (67) := ri_of (by decide +kernel) rfl
theorem wi_315_67 : ri (rt_P sc fm) 315 67 (.if_icmp .ge 51) (70) := ri_of (by decide +kernel) rfl
theorem wi_315_7 : ri (rt_P sc fm) 315 7 (.istore 7) (9) := ri_of (by decide +kernel) rfl
theorem wi_315_70 : ri (rt_P sc fm) 315 70 (.bipush 8) (72) := ri_of (by decide +kernel) rfl
theorem wi_315_72 : ri (rt_P sc fm) 315 72 (.iload 11) (74) := ri_of (by decide +kernel) rfl
theorem wi_315_74 : ri (rt_P sc fm) 315 74 (.iadd) (75) := ri_of (by decide +kernel) rfl
theorem wi_315_75 : ri (rt_P sc fm) 315 75 (.istore 12) (77) := ri_of (by decide +kernel) rfl
theorem wi_315_77 : ri (rt_P sc fm) 315 77 (.lload 9) (79) := ri_of (by decide +kernel) rfl
theorem wi_315_79 : ri (rt_P sc fm) 315 79 (.iload 12) (81) := ri_of (by decide +kernel) rfl
theorem wi_315_81 : ri (rt_P sc fm) 315 81 (.aload_n 0) (82) := ri_of (by decide +kernel) rfl
theorem wi_315_82 : ri (rt_P sc fm) 315 82 (.getfield 34) (85) := ri_of (by decide +kernel) rfl
theorem wi_315_85 : ri (rt_P sc fm) 315 85 (.getfield 83) (88) := ri_of (by decide +kernel) rfl
theorem wi_315_88 : ri (rt_P sc fm) 315 88 (.iload 11) (90) := ri_of (by decide +kernel) rfl
theorem wi_315_9 : ri (rt_P sc fm) 315 9 (.iload_n 1) (10) := ri_of (by decide +kernel) rfl
theorem wi_315_90 : ri (rt_P sc fm) 315 90 (.aaload) (91) := ri_of (by decide +kernel) rfl
theorem wi_315_91 : ri (rt_P sc fm) 315 91 (.lload_n 2) (92) := ri_of (by decide +kernel) rfl
theorem wi_315_92 : ri (rt_P sc fm) 315 92 (.iload 12) (94) := ri_of (by decide +kernel) rfl
theorem wi_315_94 : ri (rt_P sc fm) 315 94 (.invokestatic 154) (97) := ri_of (by decide +kernel) rfl
theorem wi_315_97 : ri (rt_P sc fm) 315 97 (.lload 4) (99) := ri_of (by decide +kernel) rfl
theorem wi_315_99 : ri (rt_P sc fm) 315 99 (.iload 12) (101) := ri_of (by decide +kernel) rfl
theorem wk_315_65 : rx_kt (rt_P sc fm) 315 65 = some (.long (4294967295)) := (by decide +kernel : rt_kt 315 65 = some (.long (4294967295)))
theorem wr_315 : rx_rt (rt_P sc fm) 315 = (some FieldType.long) := (by decide +kernel : rt_rt 315 = (some FieldType.long))
/-- MarkHouse$Run.reckon(IJJ)J -/
def d_315 (n : Nat) (a1 : Int32) (a2 : Int64) (a4 : Int64) (c : cS) : Option (Int64) :=
  lt ((a2 : Int64).toInt32 : Int32) (fun v2 =>
  lt ((a4 : Int64).toInt32 : Int32) (fun v5 =>
  jn (fun p7 : Int32 =>
    lt (((p7 : Int32).toInt64 &&& 4294967295) : Int64) (fun v10 =>
    Option.bind (whl (R := (Int64)) (fun s13 : Int64 × Int32 =>
      if (c.1 7 2) ≤ s13.2 then
        some (.inr s13.1)
      else
        lt ((8 + s13.2) : Int32) (fun v15 =>
        if ib s13.2 4 then
        Option.bind (d_355 n a2 v15) (fun v18 =>
        Option.bind (d_355 n a4 v15) (fun v19 =>
        Option.bind (d_238 n (ix s13.2) v18 v19 c) (fun v20 =>
        Option.bind (d_356 n s13.1 v15 v20) (fun v21 =>
        lt (s13.2 + 1 : Int32) (fun v24 =>
        some (.inl (v21, v24)))))))
        else none)) n (v10, 0))
    (fun x26 : Int64 =>
      some x26)))
  (fun j44 =>
  if a1 = 222 then
    j44 (v2 + v5)
  else
    if a1 = 223 then
      j44 (v2 - v5)
    else
      j44 (v2 * v5))))
set_option maxRecDepth 100000 in
set_option maxHeartbeats 4000000 in
theorem sp_315 {F Lo n : Nat} {a1 : Int32} {a2 : Int64} {a4 : Int64} {c y : cS} {w : cW} {K : Int64 → Prop} {Q : ((Option Value) ⊕ String) → List va_E → Prop} (hw : rOK fm w) (hF : 1 ≤ F) (hLo : 23 ≤ Lo)  (h : wp (d_315 n a1 a2 a4 c) K) (hQ : ∀ r, K r → Q (.inl (some (.long r))) (hq true c y w)) : rs (rt_P sc fm) 315 F Lo 0 [(0, .ref 159), (1, .int a1), (2, .long a2), (4, .long a4)] [] (hq true c y w) Q := by
  unfold d_315 at h
  obtain ⟨lv, elv⟩ : ∃ lv : rx_L, lv = [(0, .ref 159), (1, .int a1), (2, .long a2), (4, .long a4)] := ⟨_, rfl⟩
  rw [← elv]
  have l0 : rx_ld lv 0 = some (.ref 159) := by rw [elv]; rfl
  have l1 : rx_ld lv 1 = some (.int a1) := by rw [elv]; rfl
  have l2 : rx_ld lv 2 = some (.long a2) := by rw [elv]; rfl
  have l4 : rx_ld lv 4 = some (.long a4) := by rw [elv]; rfl
  refine rs_lldn wi_315_0 l2 ?_
  refine rs_pure wi_315_1 rfl ?_
  obtain ⟨v2, e3, h⟩ := wp_lt h
  refine rs_topi e3 ?_
  refine dl_ist wi_315_2 rfl (fun lv l6 t1 => ?_)
  have l0 := t1 _ _ (by decide) (Or.inl rfl) l0
  have l1 := t1 _ _ (by decide) (Or.inl rfl) l1
  have l2 := t1 _ _ (by decide) (Or.inr (by decide)) l2
  have l4 := t1 _ _ (by decide) (Or.inr (by decide)) l4
  refine rs_lld wi_315_4 l4 ?_
  refine rs_pure wi_315_6 rfl ?_
  obtain ⟨v5, e6, h⟩ := wp_lt h
  refine rs_topi e6 ?_
  refine dl_ist wi_315_7 rfl (fun lv l7 t4 => ?_)
  have l0 := t4 _ _ (by decide) (Or.inl rfl) l0
  have l1 := t4 _ _ (by decide) (Or.inl rfl) l1
  have l2 := t4 _ _ (by decide) (Or.inr (by decide)) l2
  have l4 := t4 _ _ (by decide) (Or.inr (by decide)) l4
  have l6 := t4 _ _ (by decide) (Or.inl rfl) l6
  refine rs_ildn wi_315_9 l1 ?_
  refine rs_pure wi_315_10 rfl ?_
  refine rs_topi (v := 222) (by decide) ?_
  refine wp_jn (B := fun p7 : Int32 => ∀ lv, rx_ld lv 0 = some (.ref 159) → rx_ld lv 2 = some (.long a2) → rx_ld lv 4 = some (.long a4) → rs (rt_P sc fm) 315 F Lo 44 lv [.int p7] (hq true c y w) Q) h (fun p7 h lv l0 l2 l4 => ?_) (fun j44 hj44 h => ?_)
  ·
    refine dl_ist wi_315_44 rfl (fun lv l8 t8 => ?_)
    have l0 := t8 _ _ (by decide) (Or.inl rfl) l0
    have l2 := t8 _ _ (by decide) (Or.inr (by decide)) l2
    have l4 := t8 _ _ (by decide) (Or.inr (by decide)) l4
    refine rs_ild wi_315_46 l8 ?_
    refine rs_pure wi_315_48 rfl ?_
    refine rs_ldcl wi_315_49 wk_315_65 ?_
    refine rs_pure wi_315_52 rfl ?_
    obtain ⟨v10, e11, h⟩ := wp_lt h
    refine rs_topl e11 ?_
    refine dl_lst wi_315_53 rfl (fun lv l9 t9 => ?_)
    have l0 := t9 _ _ (by decide) (by decide) (Or.inl rfl) l0
    have l2 := t9 _ _ (by decide) (by decide) (Or.inr (by decide)) l2
    have l4 := t9 _ _ (by decide) (by decide) (Or.inr (by decide)) l4
    refine rs_pure wi_315_55 rfl ?_
    refine rs_topi (v := 0) (by decide) ?_
    refine dl_ist wi_315_56 rfl (fun lv l11 t12 => ?_)
    have l0 := t12 _ _ (by decide) (Or.inl rfl) l0
    have l2 := t12 _ _ (by decide) (Or.inr (by decide)) l2
    have l4 := t12 _ _ (by decide) (Or.inr (by decide)) l4
    have l9 := t12 _ _ (by decide) (Or.inr (by decide)) l9
    refine whl_ex (A := fun s13 : Int64 × Int32 => ∀ lv, rx_ld lv 0 = some (.ref 159) → rx_ld lv 2 = some (.long a2) → rx_ld lv 4 = some (.long a4) → rx_ld lv 9 = some (.long s13.1) → rx_ld lv 11 = some (.int s13.2) → rs (rt_P sc fm) 315 F Lo 58 lv [] (hq true c y w) Q) (B := (fun x26 : Int64 => ∀ lv, rx_ld lv 9 = some (.long x26) → rs (rt_P sc fm) 315 F Lo 118 lv [] (hq true c y w) Q)) ?_ ?_ _ _ (wp_bind h) _ l0 l2 l4 l9 l11
    · intro s13 h lv l0 l2 l4 l9 l11
      refine rs_ild wi_315_58 l11 ?_
      refine rs_aldn wi_315_60 l0 ?_
      refine dq_gr wi_315_61 wf_315_34 tf_159_0 ?_
      refine dq_gi wi_315_64 wf_315_78 tf_7_2 ?_
      refine rs_icge (tg := 118) wi_315_67 ⟨by decide, by decide⟩ (fun q => ?_) (fun q => ?_)
      ·
        have h := wp_pos h q
        exact h _ l9
      ·
        have h := wp_neg h q
        refine rs_pure wi_315_70 rfl ?_
        refine rs_topi (v := 8) (by decide) ?_
        refine rs_ild wi_315_72 l11 ?_
        refine rs_pure wi_315_74 rfl ?_
        obtain ⟨v15, e16, h⟩ := wp_lt h
        refine rs_topi e16 ?_
        refine dl_ist wi_315_75 rfl (fun lv l12 t14 => ?_)
        have l0 := t14 _ _ (by decide) (Or.inl rfl) l0
        have l2 := t14 _ _ (by decide) (Or.inr (by decide)) l2
        have l4 := t14 _ _ (by decide) (Or.inr (by decide)) l4
        have l9 := t14 _ _ (by decide) (Or.inr (by decide)) l9
        have l11 := t14 _ _ (by decide) (Or.inl rfl) l11
        refine rs_lld wi_315_77 l9 ?_
        refine rs_ild wi_315_79 l12 ?_
        refine rs_aldn wi_315_81 l0 ?_
        refine dq_gr wi_315_82 wf_315_34 tf_159_0 ?_
        refine dq_gr wi_315_85 wf_315_83 tf_7_1 ?_
        refine rs_ild wi_315_88 l11 ?_
        obtain ⟨g17, h⟩ := wp_gd h
        refine dq_aald wi_315_90 (by decide) t_8 g17 (hw.1 _ (ib_lt g17)) ?_
        refine rs_lldn wi_315_91 l2 ?_
        refine rs_ild wi_315_92 l12 ?_
        refine rs_SN wi_315_94 wc_315_154 rfl (Nat.le_trans (by decide) hF) (ml_le wm_355 (Nat.le_trans (by decide) hLo)) rfl (sp_355 (Nat.le_trans (by decide : 0 ≤ 1 - 1) (Nat.sub_le_sub_right hF 1)) (ml_sub wm_355 (Nat.le_trans (by decide : 0 ≤ 23 - 22) (Nat.sub_le_sub_right hLo 22))) (wp_bind h) (fun v18 h => rs_back1 ?_))
        refine rs_lld wi_315_97 l4 ?_
        refine rs_ild wi_315_99 l12 ?_
        refine rs_SN wi_315_101 wc_315_154 rfl (Nat.le_trans (by decide) hF) (ml_le wm_355 (Nat.le_trans (by decide) hLo)) rfl (sp_355 (Nat.le_trans (by decide : 0 ≤ 1 - 1) (Nat.sub_le_sub_right hF 1)) (ml_sub wm_355 (Nat.le_trans (by decide : 0 ≤ 23 - 22) (Nat.sub_le_sub_right hLo 22))) (wp_bind h) (fun v19 h => rs_back1 ?_))
        refine rs_V wi_315_104 wc_315_228 rfl (dq_isa (fO_0 (ib_lt g17)) wa_8_238) (Nat.le_trans (by decide) hF) (ml_le wm_238 (Nat.le_trans (by decide) hLo)) rfl (sp_238 hw (Nat.le_trans (by decide : 0 ≤ 1 - 1) (Nat.sub_le_sub_right hF 1)) (ml_sub wm_238 (Nat.le_trans (by decide : 0 ≤ 23 - 22) (Nat.sub_le_sub_right hLo 22))) (ib_lt g17) (wp_bind h) (fun v20 h => rs_back1 ?_))
        refine rs_SN wi_315_107 wc_315_92 rfl (Nat.le_trans (by decide) hF) (ml_le wm_356 (Nat.le_trans (by decide) hLo)) rfl (sp_356 (Nat.le_trans (by decide : 0 ≤ 1 - 1) (Nat.sub_le_sub_right hF 1)) (ml_sub wm_356 (Nat.le_trans (by decide : 0 ≤ 23 - 23) (Nat.sub_le_sub_right hLo 23))) (wp_bind h) (fun v21 h => rs_back1 ?_))
        refine dl_lst wi_315_110 rfl (fun lv l9 t22 => ?_)
        have l0 := t22 _ _ (by decide) (by decide) (Or.inl rfl) l0
        have l2 := t22 _ _ (by decide) (by decide) (Or.inr (by decide)) l2
        have l4 := t22 _ _ (by decide) (by decide) (Or.inr (by decide)) l4
        have l11 := t22 _ _ (by decide) (by decide) (Or.inl rfl) l11
        obtain ⟨v24, e25, h⟩ := wp_lt h
        refine dl_inc wi_315_112 l11 rfl e25 (fun lv l11 t23 => ?_)
        have l0 := t23 _ _ (by decide) (Or.inl rfl) l0
        have l2 := t23 _ _ (by decide) (Or.inr (by decide)) l2
        have l4 := t23 _ _ (by decide) (Or.inr (by decide)) l4
        have l9 := t23 _ _ (by decide) (Or.inr (by decide)) l9
        refine rs_goto (tg := 58) wi_315_115 ⟨by decide, by decide⟩ ?_
        exact h _ l0 l2 l4 l9 l11
    ·
      intro x26 h lv l9
      refine rs_lld wi_315_118 l9 ?_
      exact rs_lret wi_315_120 wr_315 (hQ x26 h)
  refine rs_icne (tg := 24) wi_315_13 ⟨by decide, by decide⟩ (fun q => ?_) (fun q => ?_)
  ·
    have h := wp_neg h q
    refine rs_ildn wi_315_24 l1 ?_
    refine rs_pure wi_315_25 rfl ?_
    refine rs_topi (v := 223) (by decide) ?_
    refine rs_icne (tg := 39) wi_315_28 ⟨by decide, by decide⟩ (fun q => ?_) (fun q => ?_)
    ·
      have h := wp_neg h q
      refine rs_ild wi_315_39 l6 ?_
      refine rs_ild wi_315_41 l7 ?_
      refine rs_pure wi_315_43 rfl ?_
      exact hj44 _ h _ l0 l2 l4
    ·
      have h := wp_pos h q
      refine rs_ild wi_315_31 l6 ?_
      refine rs_ild wi_315_33 l7 ?_
      refine rs_pure wi_315_35 rfl ?_
      refine rs_goto (tg := 44) wi_315_36 ⟨by decide, by decide⟩ ?_
      exact hj44 _ h _ l0 l2 l4
  ·
    have h := wp_pos h q
    refine rs_ild wi_315_16 l6 ?_
    refine rs_ild wi_315_18 l7 ?_
    refine rs_pure wi_315_20 rfl ?_
    refine rs_goto (tg := 44) wi_315_21 ⟨by decide, by decide⟩ ?_
    exact hj44 _ h _ l0 l2 l4
end D50
