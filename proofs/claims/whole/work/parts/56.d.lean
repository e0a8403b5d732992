/-! THE CODE AS PURE PROGRAMS, 15: by wip/whole/dc.py -/
section D56
variable {sc : Nat × (Nat → Int32)} {fm : Value}
theorem wa_15_432 : rz_cn 15 (rx_yn (rt_P sc fm) 432).cls = true := (by decide +kernel : rz_cn 15 (rt_yn 432).cls = true)
theorem wc_115_652 : rx_ct (rt_P sc fm) 115 652 = some (0, 109, 1) := (by decide +kernel : rt_ct 115 652 = some (0, 109, 1))
theorem wc_115_674 : rx_ct (rt_P sc fm) 115 674 = some (0, 424, 1) := (by decide +kernel : rt_ct 115 674 = some (0, 424, 1))
theorem wc_115_690 : rx_ct (rt_P sc fm) 115 690 = some (0, 427, 3) := (by decide +kernel : rt_ct 115 690 = some (0, 427, 3))
theorem wc_115_709 : rx_ct (rt_P sc fm) 115 709 = some (0, 113, 1) := (by decide +kernel : rt_ct 115 709 = some (0, 113, 1))
theorem wc_115_712 : rx_ct (rt_P sc fm) 115 712 = some (0, 428, 2) := (by decide +kernel : rt_ct 115 712 = some (0, 428, 2))
theorem wc_115_715 : rx_ct (rt_P sc fm) 115 715 = some (0, 432, 3) := (by decide +kernel : rt_ct 115 715 = some (0, 432, 3))
theorem wf_115_218 : rx_ft (rt_P sc fm) 115 218 = some (15, 60) := (by decide +kernel : rt_ft 115 218 = some (15, 60))
theorem wf_115_252 : rx_ft (rt_P sc fm) 115 252 = some (15, 75) := (by decide +kernel : rt_ft 115 252 = some (15, 75))
theorem wf_115_678 : rx_ft (rt_P sc fm) 115 678 = some (15, 74) := (by decide +kernel : rt_ft 115 678 = some (15, 74))
theorem wf_115_681 : rx_ft (rt_P sc fm) 115 681 = some (15, 77) := (by decide +kernel : rt_ft 115 681 = some (15, 77))
theorem wf_115_684 : rx_ft (rt_P sc fm) 115 684 = some (15, 78) := (by decide +kernel : rt_ft 115 684 = some (15, 78))
theorem wf_115_687 : rx_ft (rt_P sc fm) 115 687 = some (15, 76) := (by decide +kernel : rt_ft 115 687 = some (15, 76))
theorem wi_115_0 : ri (rt_P sc fm) 115 0 (.aload_n 0) (1) := ri_of (by decide +kernel) rfl
theorem wi_115_1 : ri (rt_P sc fm) 115 1 (.iconst 0) (2) := ri_of (by decide +kernel) rfl
theorem wi_115_10 : ri (rt_P sc fm) 115 10 (.ifCond .eq 11) (13) := ri_of (by decide +kernel) rfl
theorem wi_115_100 : ri (rt_P sc fm) 115 100 (.getfield 218) (103) := ri_of (by decide +kernel) rfl
theorem wi_115_103 : ri (rt_P sc fm) 115 103 (.aload_n 0) (104) := ri_of (by decide +kernel) rfl
theorem wi_115_104 : ri (rt_P sc fm) 115 104 (.getfield 687) (107) := ri_of (by decide +kernel) rfl
theorem wi_115_107 : ri (rt_P sc fm) 115 107 (.iaload) (108) := ri_of (by decide +kernel) rfl
theorem wi_115_108 : ri (rt_P sc fm) 115 108 (.if_icmp .ge 66) (111) := ri_of (by decide +kernel) rfl
theorem wi_115_111 : ri (rt_P sc fm) 115 111 (.aload_n 0) (112) := ri_of (by decide +kernel) rfl
theorem wi_115_112 : ri (rt_P sc fm) 115 112 (.getfield 684) (115) := ri_of (by decide +kernel) rfl
theorem wi_115_115 : ri (rt_P sc fm) 115 115 (.ifCond .eq 59) (118) := ri_of (by decide +kernel) rfl
theorem wi_115_118 : ri (rt_P sc fm) 115 118 (.aload_n 0) (119) := ri_of (by decide +kernel) rfl
theorem wi_115_119 : ri (rt_P sc fm) 115 119 (.aload_n 0) (120) := ri_of (by decide +kernel) rfl
theorem wi_115_120 : ri (rt_P sc fm) 115 120 (.getfield 687) (123) := ri_of (by decide +kernel) rfl
theorem wi_115_123 : ri (rt_P sc fm) 115 123 (.iload 5) (125) := ri_of (by decide +kernel) rfl
theorem wi_115_125 : ri (rt_P sc fm) 115 125 (.aload_n 0) (126) := ri_of (by decide +kernel) rfl
theorem wi_115_126 : ri (rt_P sc fm) 115 126 (.iload_n 2) (127) := ri_of (by decide +kernel) rfl
theorem wi_115_127 : ri (rt_P sc fm) 115 127 (.invokevirtual 674) (130) := ri_of (by decide +kernel) rfl
theorem wi_115_13 : ri (rt_P sc fm) 115 13 (.aload_n 0) (14) := ri_of (by decide +kernel) rfl
theorem wi_115_130 : ri (rt_P sc fm) 115 130 (.invokevirtual 690) (133) := ri_of (by decide +kernel) rfl
theorem wi_115_133 : ri (rt_P sc fm) 115 133 (.istore 6) (135) := ri_of (by decide +kernel) rfl
theorem wi_115_135 : ri (rt_P sc fm) 115 135 (.iload 4) (137) := ri_of (by decide +kernel) rfl
theorem wi_115_137 : ri (rt_P sc fm) 115 137 (.ifCond .ne 24) (140) := ri_of (by decide +kernel) rfl
theorem wi_115_14 : ri (rt_P sc fm) 115 14 (.iload_n 2) (15) := ri_of (by decide +kernel) rfl
theorem wi_115_140 : ri (rt_P sc fm) 115 140 (.iload 6) (142) := ri_of (by decide +kernel) rfl
theorem wi_115_142 : ri (rt_P sc fm) 115 142 (.ifCond .lt 23) (145) := ri_of (by decide +kernel) rfl
theorem wi_115_145 : ri (rt_P sc fm) 115 145 (.aload_n 0) (146) := ri_of (by decide +kernel) rfl
theorem wi_115_146 : ri (rt_P sc fm) 115 146 (.iload 6) (148) := ri_of (by decide +kernel) rfl
theorem wi_115_148 : ri (rt_P sc fm) 115 148 (.aload_n 0) (149) := ri_of (by decide +kernel) rfl
theorem wi_115_149 : ri (rt_P sc fm) 115 149 (.getfield 252) (152) := ri_of (by decide +kernel) rfl
theorem wi_115_15 : ri (rt_P sc fm) 115 15 (.invokevirtual 709) (18) := ri_of (by decide +kernel) rfl
theorem wi_115_152 : ri (rt_P sc fm) 115 152 (.iconst 0) (153) := ri_of (by decide +kernel) rfl
theorem wi_115_153 : ri (rt_P sc fm) 115 153 (.iaload) (154) := ri_of (by decide +kernel) rfl
theorem wi_115_154 : ri (rt_P sc fm) 115 154 (.iload_n 2) (155) := ri_of (by decide +kernel) rfl
theorem wi_115_155 : ri (rt_P sc fm) 115 155 (.invokevirtual 715) (158) := ri_of (by decide +kernel) rfl
theorem wi_115_158 : ri (rt_P sc fm) 115 158 (.ifCond .ne 7) (161) := ri_of (by decide +kernel) rfl
theorem wi_115_161 : ri (rt_P sc fm) 115 161 (.iconst 1) (162) := ri_of (by decide +kernel) rfl
theorem wi_115_162 : ri (rt_P sc fm) 115 162 (.goto 4) (165) := ri_of (by decide +kernel) rfl
theorem wi_115_165 : ri (rt_P sc fm) 115 165 (.iconst 0) (166) := ri_of (by decide +kernel) rfl
theorem wi_115_166 : ri (rt_P sc fm) 115 166 (.istore 4) (168) := ri_of (by decide +kernel) rfl
theorem wi_115_168 : ri (rt_P sc fm) 115 168 (.iinc 5 1) (171) := ri_of (by decide +kernel) rfl
theorem wi_115_171 : ri (rt_P sc fm) 115 171 (.goto (-74)) (174) := ri_of (by decide +kernel) rfl
theorem wi_115_174 : ri (rt_P sc fm) 115 174 (.iload 4) (176) := ri_of (by decide +kernel) rfl
theorem wi_115_176 : ri (rt_P sc fm) 115 176 (.ifCond .eq 7) (179) := ri_of (by decide +kernel) rfl
theorem wi_115_179 : ri (rt_P sc fm) 115 179 (.iconst 1) (180) := ri_of (by decide +kernel) rfl
theorem wi_115_18 : ri (rt_P sc fm) 115 18 (.ifCond .ne 5) (21) := ri_of (by decide +kernel) rfl
theorem wi_115_180 : ri (rt_P sc fm) 115 180 (.goto 4) (183) := ri_of (by decide +kernel) rfl
theorem wi_115_183 : ri (rt_P sc fm) 115 183 (.iconst 0) (184) := ri_of (by decide +kernel) rfl
theorem wi_115_184 : ri (rt_P sc fm) 115 184 (.ireturn) (185) := ri_of (by decide +kernel) rfl
theorem wi_115_185 : ri (rt_P sc fm) 115 185 (.iconst (-1)) (186) := ri_of (by decide +kernel) rfl
theorem wi_115_186 : ri (rt_P sc fm) 115 186 (.ireturn) (187) := ri_of (by decide +kernel) rfl
theorem wi_115_2 : ri (rt_P sc fm) 115 2 (.putfield 356) (5) := ri_of (by decide +kernel) rfl
theorem wi_115_21 : ri (rt_P sc fm) 115 21 (.iconst (-1)) (22) := ri_of (by decide +kernel) rfl
theorem wi_115_22 : ri (rt_P sc fm) 115 22 (.ireturn) (23) := ri_of (by decide +kernel) rfl
theorem wi_115_23 : ri (rt_P sc fm) 115 23 (.aload_n 0) (24) := ri_of (by decide +kernel) rfl
theorem wi_115_24 : ri (rt_P sc fm) 115 24 (.iload_n 1) (25) := ri_of (by decide +kernel) rfl
theorem wi_115_25 : ri (rt_P sc fm) 115 25 (.iload_n 2) (26) := ri_of (by decide +kernel) rfl
theorem wi_115_26 : ri (rt_P sc fm) 115 26 (.invokevirtual 712) (29) := ri_of (by decide +kernel) rfl
theorem wi_115_29 : ri (rt_P sc fm) 115 29 (.aload_n 0) (30) := ri_of (by decide +kernel) rfl
theorem wi_115_30 : ri (rt_P sc fm) 115 30 (.getfield 678) (33) := ri_of (by decide +kernel) rfl
theorem wi_115_33 : ri (rt_P sc fm) 115 33 (.ifCond .ne 5) (36) := ri_of (by decide +kernel) rfl
theorem wi_115_36 : ri (rt_P sc fm) 115 36 (.iconst (-1)) (37) := ri_of (by decide +kernel) rfl
theorem wi_115_37 : ri (rt_P sc fm) 115 37 (.ireturn) (38) := ri_of (by decide +kernel) rfl
theorem wi_115_38 : ri (rt_P sc fm) 115 38 (.iload_n 3) (39) := ri_of (by decide +kernel) rfl
theorem wi_115_39 : ri (rt_P sc fm) 115 39 (.tableswitch 146 0 3 #[29, 34, 39, 52]) (39 + rx_len (.tableswitch 146 0 3 #[29, 34, 39, 52])) := ri_of (by decide +kernel) rfl
theorem wi_115_5 : ri (rt_P sc fm) 115 5 (.aload_n 0) (6) := ri_of (by decide +kernel) rfl
theorem wi_115_6 : ri (rt_P sc fm) 115 6 (.iload_n 1) (7) := ri_of (by decide +kernel) rfl
theorem wi_115_68 : ri (rt_P sc fm) 115 68 (.aload_n 0) (69) := ri_of (by decide +kernel) rfl
theorem wi_115_69 : ri (rt_P sc fm) 115 69 (.getfield 687) (72) := ri_of (by decide +kernel) rfl
theorem wi_115_7 : ri (rt_P sc fm) 115 7 (.invokevirtual 652) (10) := ri_of (by decide +kernel) rfl
theorem wi_115_72 : ri (rt_P sc fm) 115 72 (.ireturn) (73) := ri_of (by decide +kernel) rfl
theorem wi_115_73 : ri (rt_P sc fm) 115 73 (.aload_n 0) (74) := ri_of (by decide +kernel) rfl
theorem wi_115_74 : ri (rt_P sc fm) 115 74 (.getfield 681) (77) := ri_of (by decide +kernel) rfl
theorem wi_115_77 : ri (rt_P sc fm) 115 77 (.ireturn) (78) := ri_of (by decide +kernel) rfl
theorem wi_115_78 : ri (rt_P sc fm) 115 78 (.aload_n 0) (79) := ri_of (by decide +kernel) rfl
theorem wi_115_79 : ri (rt_P sc fm) 115 79 (.getfield 684) (82) := ri_of (by decide +kernel) rfl
theorem wi_115_82 : ri (rt_P sc fm) 115 82 (.ifCond .eq 7) (85) := ri_of (by decide +kernel) rfl
theorem wi_115_85 : ri (rt_P sc fm) 115 85 (.iconst 1) (86) := ri_of (by decide +kernel) rfl
theorem wi_115_86 : ri (rt_P sc fm) 115 86 (.goto 4) (89) := ri_of (by decide +kernel) rfl
theorem wi_115_89 : ri (rt_P sc fm) 115 89 (.iconst 0) (90) := ri_of (by decide +kernel) rfl
theorem wi_115_90 : ri (rt_P sc fm) 115 90 (.ireturn) (91) := ri_of (by decide +kernel) rfl
theorem wi_115_91 : ri (rt_P sc fm) 115 91 (.iconst 0) (92) := ri_of (by decide +kernel) rfl
theorem wi_115_92 : ri (rt_P sc fm) 115 92 (.istore 4) (94) := ri_of (by decide +kernel) rfl
theorem wi_115_94 : ri (rt_P sc fm) 115 94 (.iconst 0) (95) := ri_of (by decide +kernel) rfl
theorem wi_115_95 : ri (rt_P sc fm) 115 95 (.istore 5) (97) := ri_of (by decide +kernel) rfl
theorem wi_115_97 : ri (rt_P sc fm) 115 97 (.iload 5) (99) := ri_of (by decide +kernel) rfl
theorem wi_115_99 : ri (rt_P sc fm) 115 99 (.aload_n 0) (100) := ri_of (by decide +kernel) rfl
theorem wm_432 : rx_ml (rt_P sc fm) 432 = 10 := (by decide +kernel : rt_ml 432 = 10)
theorem wp_115_356 : rx_pt (rt_P sc fm) 115 356 = some (15, 0, .int) := (by decide +kernel : rt_pt 115 356 = some (15, 0, .int))
theorem wr_115 : rx_rt (rt_P sc fm) 115 = (some FieldType.int) := (by decide +kernel : rt_rt 115 = (some FieldType.int))
/-- MarkHouseModel.whence(III)I -/
def d_115 (n : Nat) (a1 : Int32) (a2 : Int32) (a3 : Int32) (c : cS) : Option (Int32 × cS) :=
  lt (pI c 174 0 0) (fun c1 =>
  Option.bind (d_109 n a1 c1) (fun v3 =>
  jn (fun p4 : Unit =>
    some ((-1), c1))
  (fun j21 =>
  if v3 = 0 then
    j21 ()
  else
    Option.bind (d_113 n a2 c1) (fun v5 =>
    if v5 = 0 then
      j21 ()
    else
      Option.bind (d_428 n a1 a2 c1) (fun r6 =>
      if (r6.1 174 74) = 0 then
        some ((-1), r6)
      else
        if a3 = 0 then
          some ((r6.1 174 76), r6)
        else
        if a3 = 1 then
          some ((r6.1 174 77), r6)
        else
        if a3 = 2 then
          jn (fun p10 : Int32 =>
            some (p10, r6))
          (fun j90 =>
          if (r6.1 174 78) = 0 then
            j90 0
          else
            j90 1)
        else
        if a3 = 3 then
          Option.bind (whl (R := (Int32 × cS)) (fun s14 : Int32 × Int32 × cS =>
            if ib (s14.2.2.1 174 76) 1219 then
            if (s14.2.2.1 222 (ix (s14.2.2.1 174 76))) ≤ s14.2.1 then
              some (.inr (s14.1, s14.2.2))
            else
              if (s14.2.2.1 174 78) = 0 then
                some (.inr (s14.1, s14.2.2))
              else
                Option.bind (d_424 n a2 s14.2.2) (fun v16 =>
                Option.bind (d_427 n (s14.2.2.1 174 76) s14.2.1 v16 s14.2.2) (fun r17 =>
                jn (fun p19 : Int32 × cS =>
                  lt (s14.2.1 + 1 : Int32) (fun v22 =>
                  some (.inl (p19.1, v22, p19.2))))
                (fun j166 =>
                jn (fun p24 : cS =>
                  j166 (1, p24))
                (fun j161 =>
                if s14.1 = 0 then
                  jn (fun p25 : cS =>
                    j166 (0, p25))
                  (fun j165 =>
                  if r17.1 < 0 then
                    j165 r17.2
                  else
                    if ib 0 20 then
                    Option.bind (d_432 n r17.1 (r17.2.1 233 (ix 0)) a2 r17.2) (fun r27 =>
                    if r27.1 = 0 then
                      j161 r27.2
                    else
                      j165 r27.2)
                    else none)
                else
                  j161 r17.2))))
            else none) n (0, 0, r6))
          (fun x28 : Int32 × cS =>
            jn (fun p29 : Int32 =>
              some (p29, x28.2))
            (fun j184 =>
            if x28.1 = 0 then
              j184 0
            else
              j184 1))
        else
        some ((-1), r6))))))
set_option maxRecDepth 100000 in
set_option maxHeartbeats 4000000 in
theorem sp_115 {F Lo n : Nat} {a1 : Int32} {a2 : Int32} {a3 : Int32} {c y : cS} {w : cW} {K : Int32 × cS → Prop} {Q : ((Option Value) ⊕ String) → List va_E → Prop} (hw : rOK fm w) (hF : 4 ≤ F) (hLo : 105 ≤ Lo)  (h : wp (d_115 n a1 a2 a3 c) K) (hQ : ∀ r, K r → Q (.inl (some (.int r.1))) (hq false r.2 y w)) : rs (rt_P sc fm) 115 F Lo 0 [(0, .ref 174), (1, .int a1), (2, .int a2), (3, .int a3)] [] (hq false c y w) Q := by
  unfold d_115 at h
  obtain ⟨lv, elv⟩ : ∃ lv : rx_L, lv = [(0, .ref 174), (1, .int a1), (2, .int a2), (3, .int a3)] := ⟨_, rfl⟩
  rw [← elv]
  have l0 : rx_ld lv 0 = some (.ref 174) := by rw [elv]; rfl
  have l1 : rx_ld lv 1 = some (.int a1) := by rw [elv]; rfl
  have l2 : rx_ld lv 2 = some (.int a2) := by rw [elv]; rfl
  have l3 : rx_ld lv 3 = some (.int a3) := by rw [elv]; rfl
  refine rs_aldn wi_115_0 l0 ?_
  refine rs_pure wi_115_1 rfl ?_
  refine rs_topi (v := 0) (by decide) ?_
  obtain ⟨c1, e2, h⟩ := wp_lt h
  refine dq_pi wi_115_2 wp_115_356 tf_174_0 rfl rfl e2 ?_
  refine rs_aldn wi_115_5 l0 ?_
  refine rs_ildn wi_115_6 l1 ?_
  refine rs_V wi_115_7 wc_115_652 rfl (dq_isa tf_174_0 wa_15_109) (Nat.le_trans (by decide) hF) (ml_le wm_109 (Nat.le_trans (by decide) hLo)) rfl (sp_109 hw (Nat.le_trans (by decide : 0 ≤ 4 - 1) (Nat.sub_le_sub_right hF 1)) (ml_sub wm_109 (Nat.le_trans (by decide : 0 ≤ 105 - 24) (Nat.sub_le_sub_right hLo 24))) (wp_bind h) (fun v3 h => rs_back1 ?_))
  refine wp_jn (B := fun p4 : Unit => ∀ lv, rs (rt_P sc fm) 115 F Lo 21 lv [] (hq false c1 y w) Q) h (fun p4 h lv => ?_) (fun j21 hj21 h => ?_)
  ·
    refine rs_pure wi_115_21 rfl ?_
    refine rs_topi (v := (-1)) (by decide) ?_
    exact rs_iret wi_115_22 wr_115 rfl (hQ ((-1), c1) h)
  refine rs_ifeq (tg := 21) wi_115_10 ⟨by decide, by decide⟩ (fun q => ?_) (fun q => ?_)
  ·
    have h := wp_pos h q
    exact hj21 _ h _
  ·
    have h := wp_neg h q
    refine rs_aldn wi_115_13 l0 ?_
    refine rs_ildn wi_115_14 l2 ?_
    refine rs_V wi_115_15 wc_115_709 rfl (dq_isa tf_174_0 wa_15_113) (Nat.le_trans (by decide) hF) (ml_le wm_113 (Nat.le_trans (by decide) hLo)) rfl (sp_113 hw (Nat.le_trans (by decide : 0 ≤ 4 - 1) (Nat.sub_le_sub_right hF 1)) (ml_sub wm_113 (Nat.le_trans (by decide : 0 ≤ 105 - 21) (Nat.sub_le_sub_right hLo 21))) (wp_bind h) (fun v5 h => rs_back1 ?_))
    refine rs_ifne (tg := 23) wi_115_18 ⟨by decide, by decide⟩ (fun q => ?_) (fun q => ?_)
    ·
      have h := wp_neg h q
      refine rs_aldn wi_115_23 l0 ?_
      refine rs_ildn wi_115_24 l1 ?_
      refine rs_ildn wi_115_25 l2 ?_
      refine rs_V wi_115_26 wc_115_712 rfl (dq_isa tf_174_0 wa_15_428) (Nat.le_trans (by decide) hF) (ml_le wm_428 (Nat.le_trans (by decide) hLo)) rfl (sp_428 hw (Nat.le_trans (by decide : 3 ≤ 4 - 1) (Nat.sub_le_sub_right hF 1)) (ml_sub wm_428 (Nat.le_trans (by decide : 77 ≤ 105 - 28) (Nat.sub_le_sub_right hLo 28))) (wp_bind h) (fun r6 h => rs_back0 ?_))
      refine rs_aldn wi_115_29 l0 ?_
      refine dq_gi wi_115_30 wf_115_678 tf_174_74 ?_
      refine rs_ifne (tg := 38) wi_115_33 ⟨by decide, by decide⟩ (fun q => ?_) (fun q => ?_)
      ·
        have h := wp_neg h q
        refine rs_ildn wi_115_38 l3 ?_
        by_cases q7 : a3 = 0
        ·
          have h := wp_pos h q7
          refine rs_tsk (tg := 68) (off := 29) (v := 0) wi_115_39 q7 (by decide) (by decide) ⟨by decide, by decide⟩ ?_
          refine rs_aldn wi_115_68 l0 ?_
          refine dq_gi wi_115_69 wf_115_687 tf_174_76 ?_
          exact rs_iret wi_115_72 wr_115 rfl (hQ ((r6.1 174 76), r6) h)
        have h := wp_neg h q7
        by_cases q8 : a3 = 1
        ·
          have h := wp_pos h q8
          refine rs_tsk (tg := 73) (off := 34) (v := 1) wi_115_39 q8 (by decide) (by decide) ⟨by decide, by decide⟩ ?_
          refine rs_aldn wi_115_73 l0 ?_
          refine dq_gi wi_115_74 wf_115_681 tf_174_77 ?_
          exact rs_iret wi_115_77 wr_115 rfl (hQ ((r6.1 174 77), r6) h)
        have h := wp_neg h q8
        by_cases q9 : a3 = 2
        ·
          have h := wp_pos h q9
          refine rs_tsk (tg := 78) (off := 39) (v := 2) wi_115_39 q9 (by decide) (by decide) ⟨by decide, by decide⟩ ?_
          refine rs_aldn wi_115_78 l0 ?_
          refine dq_gi wi_115_79 wf_115_684 tf_174_78 ?_
          refine wp_jn (B := fun p10 : Int32 => ∀ lv, rs (rt_P sc fm) 115 F Lo 90 lv [.int p10] (hq false r6 y w) Q) h (fun p10 h lv => ?_) (fun j90 hj90 h => ?_)
          ·
            exact rs_iret wi_115_90 wr_115 rfl (hQ (p10, r6) h)
          refine rs_ifeq (tg := 89) wi_115_82 ⟨by decide, by decide⟩ (fun q => ?_) (fun q => ?_)
          ·
            have h := wp_pos h q
            refine rs_pure wi_115_89 rfl ?_
            refine rs_topi (v := 0) (by decide) ?_
            exact hj90 _ h _
          ·
            have h := wp_neg h q
            refine rs_pure wi_115_85 rfl ?_
            refine rs_topi (v := 1) (by decide) ?_
            refine rs_goto (tg := 90) wi_115_86 ⟨by decide, by decide⟩ ?_
            exact hj90 _ h _
        have h := wp_neg h q9
        by_cases q11 : a3 = 3
        ·
          have h := wp_pos h q11
          refine rs_tsk (tg := 91) (off := 52) (v := 3) wi_115_39 q11 (by decide) (by decide) ⟨by decide, by decide⟩ ?_
          refine rs_pure wi_115_91 rfl ?_
          refine rs_topi (v := 0) (by decide) ?_
          refine dl_ist wi_115_92 rfl (fun lv l4 t12 => ?_)
          have l0 := t12 _ _ (by decide) (Or.inl rfl) l0
          have l2 := t12 _ _ (by decide) (Or.inl rfl) l2
          refine rs_pure wi_115_94 rfl ?_
          refine rs_topi (v := 0) (by decide) ?_
          refine dl_ist wi_115_95 rfl (fun lv l5 t13 => ?_)
          have l0 := t13 _ _ (by decide) (Or.inl rfl) l0
          have l2 := t13 _ _ (by decide) (Or.inl rfl) l2
          have l4 := t13 _ _ (by decide) (Or.inl rfl) l4
          refine whl_ex (A := fun s14 : Int32 × Int32 × cS => ∀ lv, rx_ld lv 0 = some (.ref 174) → rx_ld lv 2 = some (.int a2) → rx_ld lv 4 = some (.int s14.1) → rx_ld lv 5 = some (.int s14.2.1) → rs (rt_P sc fm) 115 F Lo 97 lv [] (hq false s14.2.2 y w) Q) (B := (fun x28 : Int32 × cS => ∀ lv, rx_ld lv 4 = some (.int x28.1) → rs (rt_P sc fm) 115 F Lo 174 lv [] (hq false x28.2 y w) Q)) ?_ ?_ _ _ (wp_bind h) _ l0 l2 l4 l5
          · intro s14 h lv l0 l2 l4 l5
            refine rs_ild wi_115_97 l5 ?_
            refine rs_aldn wi_115_99 l0 ?_
            refine dq_gr wi_115_100 wf_115_218 tf_174_60 ?_
            refine rs_aldn wi_115_103 l0 ?_
            refine dq_gi wi_115_104 wf_115_687 tf_174_76 ?_
            obtain ⟨g15, h⟩ := wp_gd h
            refine dq_iald wi_115_107 t_222 g15 ?_
            refine rs_icge (tg := 174) wi_115_108 ⟨by decide, by decide⟩ (fun q => ?_) (fun q => ?_)
            ·
              have h := wp_pos h q
              exact h _ l4
            ·
              have h := wp_neg h q
              refine rs_aldn wi_115_111 l0 ?_
              refine dq_gi wi_115_112 wf_115_684 tf_174_78 ?_
              refine rs_ifeq (tg := 174) wi_115_115 ⟨by decide, by decide⟩ (fun q => ?_) (fun q => ?_)
              ·
                have h := wp_pos h q
                exact h _ l4
              ·
                have h := wp_neg h q
                refine rs_aldn wi_115_118 l0 ?_
                refine rs_aldn wi_115_119 l0 ?_
                refine dq_gi wi_115_120 wf_115_687 tf_174_76 ?_
                refine rs_ild wi_115_123 l5 ?_
                refine rs_aldn wi_115_125 l0 ?_
                refine rs_ildn wi_115_126 l2 ?_
                refine rs_V wi_115_127 wc_115_674 rfl (dq_isa tf_174_0 wa_15_424) (Nat.le_trans (by decide) hF) (ml_le wm_424 (Nat.le_trans (by decide) hLo)) rfl (sp_424 hw (Nat.le_trans (by decide : 0 ≤ 4 - 1) (Nat.sub_le_sub_right hF 1)) (ml_sub wm_424 (Nat.le_trans (by decide : 0 ≤ 105 - 21) (Nat.sub_le_sub_right hLo 21))) (wp_bind h) (fun v16 h => rs_back1 ?_))
                refine rs_V wi_115_130 wc_115_690 rfl (dq_isa tf_174_0 wa_15_427) (Nat.le_trans (by decide) hF) (ml_le wm_427 (Nat.le_trans (by decide) hLo)) rfl (sp_427 hw (Nat.le_trans (by decide : 2 ≤ 4 - 1) (Nat.sub_le_sub_right hF 1)) (ml_sub wm_427 (Nat.le_trans (by decide : 52 ≤ 105 - 25) (Nat.sub_le_sub_right hLo 25))) (wp_bind h) (fun r17 h => rs_back1 ?_))
                refine dl_ist wi_115_133 rfl (fun lv l6 t18 => ?_)
                have l0 := t18 _ _ (by decide) (Or.inl rfl) l0
                have l2 := t18 _ _ (by decide) (Or.inl rfl) l2
                have l4 := t18 _ _ (by decide) (Or.inl rfl) l4
                have l5 := t18 _ _ (by decide) (Or.inl rfl) l5
                refine rs_ild wi_115_135 l4 ?_
                refine wp_jn (B := fun p19 : Int32 × cS => ∀ lv, rx_ld lv 0 = some (.ref 174) → rx_ld lv 2 = some (.int a2) → rx_ld lv 5 = some (.int s14.2.1) → rs (rt_P sc fm) 115 F Lo 166 lv [.int p19.1] (hq false p19.2 y w) Q) h (fun p19 h lv l0 l2 l5 => ?_) (fun j166 hj166 h => ?_)
                ·
                  refine dl_ist wi_115_166 rfl (fun lv l4 t20 => ?_)
                  have l0 := t20 _ _ (by decide) (Or.inl rfl) l0
                  have l2 := t20 _ _ (by decide) (Or.inl rfl) l2
                  have l5 := t20 _ _ (by decide) (Or.inl rfl) l5
                  obtain ⟨v22, e23, h⟩ := wp_lt h
                  refine dl_inc wi_115_168 l5 rfl e23 (fun lv l5 t21 => ?_)
                  have l0 := t21 _ _ (by decide) (Or.inl rfl) l0
                  have l2 := t21 _ _ (by decide) (Or.inl rfl) l2
                  have l4 := t21 _ _ (by decide) (Or.inl rfl) l4
                  refine rs_goto (tg := 97) wi_115_171 ⟨by decide, by decide⟩ ?_
                  exact h _ l0 l2 l4 l5
                refine wp_jn (B := fun p24 : cS => ∀ lv, rx_ld lv 0 = some (.ref 174) → rx_ld lv 2 = some (.int a2) → rx_ld lv 5 = some (.int s14.2.1) → rs (rt_P sc fm) 115 F Lo 161 lv [] (hq false p24 y w) Q) h (fun p24 h lv l0 l2 l5 => ?_) (fun j161 hj161 h => ?_)
                ·
                  refine rs_pure wi_115_161 rfl ?_
                  refine rs_topi (v := 1) (by decide) ?_
                  refine rs_goto (tg := 166) wi_115_162 ⟨by decide, by decide⟩ ?_
                  exact hj166 _ h _ l0 l2 l5
                refine rs_ifne (tg := 161) wi_115_137 ⟨by decide, by decide⟩ (fun q => ?_) (fun q => ?_)
                ·
                  have h := wp_neg h q
                  exact hj161 _ h _ l0 l2 l5
                ·
                  have h := wp_pos h q
                  refine rs_ild wi_115_140 l6 ?_
                  refine wp_jn (B := fun p25 : cS => ∀ lv, rx_ld lv 0 = some (.ref 174) → rx_ld lv 2 = some (.int a2) → rx_ld lv 5 = some (.int s14.2.1) → rs (rt_P sc fm) 115 F Lo 165 lv [] (hq false p25 y w) Q) h (fun p25 h lv l0 l2 l5 => ?_) (fun j165 hj165 h => ?_)
                  ·
                    refine rs_pure wi_115_165 rfl ?_
                    refine rs_topi (v := 0) (by decide) ?_
                    exact hj166 _ h _ l0 l2 l5
                  refine rs_iflt (tg := 165) wi_115_142 ⟨by decide, by decide⟩ (fun q => ?_) (fun q => ?_)
                  ·
                    have h := wp_pos h q
                    exact hj165 _ h _ l0 l2 l5
                  ·
                    have h := wp_neg h q
                    refine rs_aldn wi_115_145 l0 ?_
                    refine rs_ild wi_115_146 l6 ?_
                    refine rs_aldn wi_115_148 l0 ?_
                    refine dq_gr wi_115_149 wf_115_252 tf_174_75 ?_
                    refine rs_pure wi_115_152 rfl ?_
                    refine rs_topi (v := 0) (by decide) ?_
                    obtain ⟨g26, h⟩ := wp_gd h
                    refine dq_iald wi_115_153 t_233 g26 ?_
                    refine rs_ildn wi_115_154 l2 ?_
                    refine rs_V wi_115_155 wc_115_715 rfl (dq_isa tf_174_0 wa_15_432) (Nat.le_trans (by decide) hF) (ml_le wm_432 (Nat.le_trans (by decide) hLo)) rfl (sp_432 hw (Nat.le_trans (by decide : 3 ≤ 4 - 1) (Nat.sub_le_sub_right hF 1)) (ml_sub wm_432 (Nat.le_trans (by decide : 72 ≤ 105 - 29) (Nat.sub_le_sub_right hLo 29))) (wp_bind h) (fun r27 h => rs_back1 ?_))
                    refine rs_ifne (tg := 165) wi_115_158 ⟨by decide, by decide⟩ (fun q => ?_) (fun q => ?_)
                    ·
                      have h := wp_neg h q
                      exact hj165 _ h _ l0 l2 l5
                    ·
                      have h := wp_pos h q
                      exact hj161 _ h _ l0 l2 l5
          ·
            intro x28 h lv l4
            refine rs_ild wi_115_174 l4 ?_
            refine wp_jn (B := fun p29 : Int32 => ∀ lv, rs (rt_P sc fm) 115 F Lo 184 lv [.int p29] (hq false x28.2 y w) Q) h (fun p29 h lv => ?_) (fun j184 hj184 h => ?_)
            ·
              exact rs_iret wi_115_184 wr_115 rfl (hQ (p29, x28.2) h)
            refine rs_ifeq (tg := 183) wi_115_176 ⟨by decide, by decide⟩ (fun q => ?_) (fun q => ?_)
            ·
              have h := wp_pos h q
              refine rs_pure wi_115_183 rfl ?_
              refine rs_topi (v := 0) (by decide) ?_
              exact hj184 _ h _
            ·
              have h := wp_neg h q
              refine rs_pure wi_115_179 rfl ?_
              refine rs_topi (v := 1) (by decide) ?_
              refine rs_goto (tg := 184) wi_115_180 ⟨by decide, by decide⟩ ?_
              exact hj184 _ h _
        have h := wp_neg h q11
        refine rs_tsd (tg := 185) wi_115_39 (rz_sw fun k k1 k2 => by
          have kk : k = 0 ∨ k = 1 ∨ k = 2 ∨ k = 3 := by omega
          rcases kk with rfl | rfl | rfl | rfl
          · exact q7
          · exact q8
          · exact q9
          · exact q11
          ) ⟨by decide, by decide⟩ ?_
        refine rs_pure wi_115_185 rfl ?_
        refine rs_topi (v := (-1)) (by decide) ?_
        exact rs_iret wi_115_186 wr_115 rfl (hQ ((-1), r6) h)
      ·
        have h := wp_pos h q
        refine rs_pure wi_115_36 rfl ?_
        refine rs_topi (v := (-1)) (by decide) ?_
        exact rs_iret wi_115_37 wr_115 rfl (hQ ((-1), r6) h)
    ·
      have h := wp_pos h q
      exact hj21 _ h _
theorem wf_357_13 : rx_ft (rt_P sc fm) 357 13 = some (15, 3) := (by decide +kernel : rt_ft 357 13 = some (15, 3))
theorem wf_357_366 : rx_ft (rt_P sc fm) 357 366 = some (15, 4) := (by decide +kernel : rt_ft 357 366 = some (15, 4))
theorem wi_357_0 : ri (rt_P sc fm) 357 0 (.aload_n 0) (1) := ri_of (by decide +kernel) rfl
theorem wi_357_1 : ri (rt_P sc fm) 357 1 (.getfield 366) (4) := ri_of (by decide +kernel) rfl
theorem wi_357_10 : ri (rt_P sc fm) 357 10 (.return_) (11) := ri_of (by decide +kernel) rfl
theorem wi_357_11 : ri (rt_P sc fm) 357 11 (.aload_n 0) (12) := ri_of (by decide +kernel) rfl
theorem wi_357_12 : ri (rt_P sc fm) 357 12 (.getfield 13) (15) := ri_of (by decide +kernel) rfl
theorem wi_357_15 : ri (rt_P sc fm) 357 15 (.aload_n 0) (16) := ri_of (by decide +kernel) rfl
theorem wi_357_16 : ri (rt_P sc fm) 357 16 (.getfield 366) (19) := ri_of (by decide +kernel) rfl
theorem wi_357_19 : ri (rt_P sc fm) 357 19 (.iload_n 1) (20) := ri_of (by decide +kernel) rfl
theorem wi_357_20 : ri (rt_P sc fm) 357 20 (.sipush 255) (23) := ri_of (by decide +kernel) rfl
theorem wi_357_23 : ri (rt_P sc fm) 357 23 (.iand) (24) := ri_of (by decide +kernel) rfl
theorem wi_357_24 : ri (rt_P sc fm) 357 24 (.iastore) (25) := ri_of (by decide +kernel) rfl
theorem wi_357_25 : ri (rt_P sc fm) 357 25 (.aload_n 0) (26) := ri_of (by decide +kernel) rfl
theorem wi_357_26 : ri (rt_P sc fm) 357 26 (.dup) (27) := ri_of (by decide +kernel) rfl
theorem wi_357_27 : ri (rt_P sc fm) 357 27 (.getfield 366) (30) := ri_of (by decide +kernel) rfl
theorem wi_357_30 : ri (rt_P sc fm) 357 30 (.iconst 1) (31) := ri_of (by decide +kernel) rfl
theorem wi_357_31 : ri (rt_P sc fm) 357 31 (.iadd) (32) := ri_of (by decide +kernel) rfl
theorem wi_357_32 : ri (rt_P sc fm) 357 32 (.putfield 366) (35) := ri_of (by decide +kernel) rfl
theorem wi_357_35 : ri (rt_P sc fm) 357 35 (.return_) (36) := ri_of (by decide +kernel) rfl
theorem wi_357_4 : ri (rt_P sc fm) 357 4 (.sipush 8000) (7) := ri_of (by decide +kernel) rfl
theorem wi_357_7 : ri (rt_P sc fm) 357 7 (.if_icmp .ne 4) (10) := ri_of (by decide +kernel) rfl
theorem wp_357_366 : rx_pt (rt_P sc fm) 357 366 = some (15, 4, .int) := (by decide +kernel : rt_pt 357 366 = some (15, 4, .int))
theorem wr_357 : rx_rt (rt_P sc fm) 357 = none := (by decide +kernel : rt_rt 357 = none)
/-- MarkHouseModel.say(I)V -/
def d_357 (n : Nat) (a1 : Int32) (c : cS) : Option (cS) :=
  if (c.1 174 4) = 8000 then
    some c
  else
    if ib (c.1 174 4) 8000 then
    lt (pI c 176 (ix (c.1 174 4)) (a1 &&& 255)) (fun c2 =>
    lt (pI c2 174 4 ((c2.1 174 4) + 1)) (fun c4 =>
    some c4))
    else none
set_option maxRecDepth 100000 in
set_option maxHeartbeats 4000000 in
theorem sp_357 {F Lo n : Nat} {a1 : Int32} {c y : cS} {w : cW} {K : cS → Prop} {Q : ((Option Value) ⊕ String) → List va_E → Prop} (hw : rOK fm w) (hF : 0 ≤ F) (hLo : 0 ≤ Lo)  (h : wp (d_357 n a1 c) K) (hQ : ∀ r, K r → Q (.inl none) (hq false r y w)) : rs (rt_P sc fm) 357 F Lo 0 [(0, .ref 174), (1, .int a1)] [] (hq false c y w) Q := by
  unfold d_357 at h
  obtain ⟨lv, elv⟩ : ∃ lv : rx_L, lv = [(0, .ref 174), (1, .int a1)] := ⟨_, rfl⟩
  rw [← elv]
  have l0 : rx_ld lv 0 = some (.ref 174) := by rw [elv]; rfl
  have l1 : rx_ld lv 1 = some (.int a1) := by rw [elv]; rfl
  refine rs_aldn wi_357_0 l0 ?_
  refine dq_gi wi_357_1 wf_357_366 tf_174_4 ?_
  refine rs_pure wi_357_4 rfl ?_
  refine rs_topi (v := 8000) (by decide) ?_
  refine rs_icne (tg := 11) wi_357_7 ⟨by decide, by decide⟩ (fun q => ?_) (fun q => ?_)
  ·
    have h := wp_neg h q
    refine rs_aldn wi_357_11 l0 ?_
    refine dq_gr wi_357_12 wf_357_13 tf_174_3 ?_
    refine rs_aldn wi_357_15 l0 ?_
    refine dq_gi wi_357_16 wf_357_366 tf_174_4 ?_
    refine rs_ildn wi_357_19 l1 ?_
    refine rs_pure wi_357_20 rfl ?_
    refine rs_topi (v := 255) (by decide) ?_
    refine rs_pure wi_357_23 rfl ?_
    obtain ⟨g1, h⟩ := wp_gd h
    obtain ⟨c2, e3, h⟩ := wp_lt h
    refine dq_iast wi_357_24 t_176 g1 e3 ?_
    refine rs_aldn wi_357_25 l0 ?_
    refine rs_pure wi_357_26 rfl ?_
    refine dq_gi wi_357_27 wf_357_366 tf_174_4 ?_
    refine rs_pure wi_357_30 rfl ?_
    refine rs_topi (v := 1) (by decide) ?_
    refine rs_pure wi_357_31 rfl ?_
    obtain ⟨c4, e5, h⟩ := wp_lt h
    refine dq_pi wi_357_32 wp_357_366 tf_174_4 rfl rfl e5 ?_
    exact rs_vret wi_357_35 wr_357 (hQ c4 h)
  ·
    have h := wp_pos h q
    exact rs_vret wi_357_10 wr_357 (hQ c h)
theorem wa_15_357 : rz_cn 15 (rx_yn (rt_P sc fm) 357).cls = true := (by decide +kernel : rz_cn 15 (rt_yn 357).cls = true)
theorem wc_358_371 : rx_ct (rt_P sc fm) 358 371 = some (0, 357, 1) := (by decide +kernel : rt_ct 358 371 = some (0, 357, 1))
theorem wi_358_0 : ri (rt_P sc fm) 358 0 (.bipush 56) (2) := ri_of (by decide +kernel) rfl
theorem wi_358_10 : ri (rt_P sc fm) 358 10 (.ldc2_w 369) (13) := ri_of (by decide +kernel) rfl
theorem wi_358_13 : ri (rt_P sc fm) 358 13 (.land) (14) := ri_of (by decide +kernel) rfl
theorem wi_358_14 : ri (rt_P sc fm) 358 14 (.lconst 0) (15) := ri_of (by decide +kernel) rfl
theorem wi_358_15 : ri (rt_P sc fm) 358 15 (.lcmp) (16) := ri_of (by decide +kernel) rfl
theorem wi_358_16 : ri (rt_P sc fm) 358 16 (.ifCond .eq 15) (19) := ri_of (by decide +kernel) rfl
theorem wi_358_19 : ri (rt_P sc fm) 358 19 (.aload_n 0) (20) := ri_of (by decide +kernel) rfl
theorem wi_358_2 : ri (rt_P sc fm) 358 2 (.istore_n 3) (3) := ri_of (by decide +kernel) rfl
theorem wi_358_20 : ri (rt_P sc fm) 358 20 (.lload_n 1) (21) := ri_of (by decide +kernel) rfl
theorem wi_358_21 : ri (rt_P sc fm) 358 21 (.iload_n 3) (22) := ri_of (by decide +kernel) rfl
theorem wi_358_22 : ri (rt_P sc fm) 358 22 (.lshr) (23) := ri_of (by decide +kernel) rfl
theorem wi_358_23 : ri (rt_P sc fm) 358 23 (.ldc2_w 369) (26) := ri_of (by decide +kernel) rfl
theorem wi_358_26 : ri (rt_P sc fm) 358 26 (.land) (27) := ri_of (by decide +kernel) rfl
theorem wi_358_27 : ri (rt_P sc fm) 358 27 (.l2i) (28) := ri_of (by decide +kernel) rfl
theorem wi_358_28 : ri (rt_P sc fm) 358 28 (.invokevirtual 371) (31) := ri_of (by decide +kernel) rfl
theorem wi_358_3 : ri (rt_P sc fm) 358 3 (.iload_n 3) (4) := ri_of (by decide +kernel) rfl
theorem wi_358_31 : ri (rt_P sc fm) 358 31 (.iinc 3 (-8)) (34) := ri_of (by decide +kernel) rfl
theorem wi_358_34 : ri (rt_P sc fm) 358 34 (.goto (-31)) (37) := ri_of (by decide +kernel) rfl
theorem wi_358_37 : ri (rt_P sc fm) 358 37 (.return_) (38) := ri_of (by decide +kernel) rfl
theorem wi_358_4 : ri (rt_P sc fm) 358 4 (.ifCond .lt 33) (7) := ri_of (by decide +kernel) rfl
theorem wi_358_7 : ri (rt_P sc fm) 358 7 (.lload_n 1) (8) := ri_of (by decide +kernel) rfl
theorem wi_358_8 : ri (rt_P sc fm) 358 8 (.iload_n 3) (9) := ri_of (by decide +kernel) rfl
theorem wi_358_9 : ri (rt_P sc fm) 358 9 (.lshr) (10) := ri_of (by decide +kernel) rfl
theorem wk_358_369 : rx_kt (rt_P sc fm) 358 369 = some (.long (255)) := (by decide +kernel : rt_kt 358 369 = some (.long (255)))
theorem wm_357 : rx_ml (rt_P sc fm) 357 = 2 := (by decide +kernel : rt_ml 357 = 2)
theorem wr_358 : rx_rt (rt_P sc fm) 358 = none := (by decide +kernel : rt_rt 358 = none)
/-- MarkHouseModel.sayPacked(J)V -/
def d_358 (n : Nat) (a1 : Int64) (c : cS) : Option (cS) :=
  Option.bind (whl (R := (cS)) (fun s2 : Int32 × cS =>
    if s2.1 < 0 then
      some (.inr s2.2)
    else
      jn (fun p3 : cS =>
        lt (s2.1 + (-8) : Int32) (fun v5 =>
        some (.inl (v5, p3))))
      (fun j31 =>
      if (lg_cmp ((a1 >>> ((s2.1 : Int32).toInt64 &&& 63)) &&& 255) 0) = 0 then
        j31 s2.2
      else
        Option.bind (d_357 n ((((a1 >>> ((s2.1 : Int32).toInt64 &&& 63)) &&& 255) : Int64).toInt32) s2.2) (fun r7 =>
        j31 r7))) n (56, c))
  (fun x8 : cS =>
    some x8)
set_option maxRecDepth 100000 in
set_option maxHeartbeats 4000000 in
theorem sp_358 {F Lo n : Nat} {a1 : Int64} {c y : cS} {w : cW} {K : cS → Prop} {Q : ((Option Value) ⊕ String) → List va_E → Prop} (hw : rOK fm w) (hF : 1 ≤ F) (hLo : 21 ≤ Lo)  (h : wp (d_358 n a1 c) K) (hQ : ∀ r, K r → Q (.inl none) (hq false r y w)) : rs (rt_P sc fm) 358 F Lo 0 [(0, .ref 174), (1, .long a1)] [] (hq false c y w) Q := by
  unfold d_358 at h
  obtain ⟨lv, elv⟩ : ∃ lv : rx_L, lv = [(0, .ref 174), (1, .long a1)] := ⟨_, rfl⟩
  rw [← elv]
  have l0 : rx_ld lv 0 = some (.ref 174) := by rw [elv]; rfl
  have l1 : rx_ld lv 1 = some (.long a1) := by rw [elv]; rfl
  refine rs_pure wi_358_0 rfl ?_
  refine rs_topi (v := 56) (by decide) ?_
  refine dl_istn wi_358_2 rfl (fun lv l3 t1 => ?_)
  have l0 := t1 _ _ (by decide) (Or.inl rfl) l0
  have l1 := t1 _ _ (by decide) (Or.inr (by decide)) l1
  refine whl_ex (A := fun s2 : Int32 × cS => ∀ lv, rx_ld lv 0 = some (.ref 174) → rx_ld lv 1 = some (.long a1) → rx_ld lv 3 = some (.int s2.1) → rs (rt_P sc fm) 358 F Lo 3 lv [] (hq false s2.2 y w) Q) (B := (fun x8 : cS => ∀ lv, rs (rt_P sc fm) 358 F Lo 37 lv [] (hq false x8 y w) Q)) ?_ ?_ _ _ (wp_bind h) _ l0 l1 l3
  · intro s2 h lv l0 l1 l3
    refine rs_ildn wi_358_3 l3 ?_
    refine rs_iflt (tg := 37) wi_358_4 ⟨by decide, by decide⟩ (fun q => ?_) (fun q => ?_)
    ·
      have h := wp_pos h q
      exact h _
    ·
      have h := wp_neg h q
      refine rs_lldn wi_358_7 l1 ?_
      refine rs_ildn wi_358_8 l3 ?_
      refine rs_pure wi_358_9 rfl ?_
      refine rs_ldcl wi_358_10 wk_358_369 ?_
      refine rs_pure wi_358_13 rfl ?_
      refine rs_pure wi_358_14 rfl ?_
      refine rs_topl (v := 0) (by decide) ?_
      refine rs_pure wi_358_15 rfl ?_
      refine wp_jn (B := fun p3 : cS => ∀ lv, rx_ld lv 0 = some (.ref 174) → rx_ld lv 1 = some (.long a1) → rx_ld lv 3 = some (.int s2.1) → rs (rt_P sc fm) 358 F Lo 31 lv [] (hq false p3 y w) Q) h (fun p3 h lv l0 l1 l3 => ?_) (fun j31 hj31 h => ?_)
      ·
        obtain ⟨v5, e6, h⟩ := wp_lt h
        refine dl_inc wi_358_31 l3 rfl e6 (fun lv l3 t4 => ?_)
        have l0 := t4 _ _ (by decide) (Or.inl rfl) l0
        have l1 := t4 _ _ (by decide) (Or.inr (by decide)) l1
        refine rs_goto (tg := 3) wi_358_34 ⟨by decide, by decide⟩ ?_
        exact h _ l0 l1 l3
      refine rs_ifeq (tg := 31) wi_358_16 ⟨by decide, by decide⟩ (fun q => ?_) (fun q => ?_)
      ·
        have h := wp_pos h q
        exact hj31 _ h _ l0 l1 l3
      ·
        have h := wp_neg h q
        refine rs_aldn wi_358_19 l0 ?_
        refine rs_lldn wi_358_20 l1 ?_
        refine rs_ildn wi_358_21 l3 ?_
        refine rs_pure wi_358_22 rfl ?_
        refine rs_ldcl wi_358_23 wk_358_369 ?_
        refine rs_pure wi_358_26 rfl ?_
        refine rs_pure wi_358_27 rfl ?_
        refine rs_V wi_358_28 wc_358_371 rfl (dq_isa tf_174_0 wa_15_357) (Nat.le_trans (by decide) hF) (ml_le wm_357 (Nat.le_trans (by decide) hLo)) rfl (sp_357 hw (Nat.le_trans (by decide : 0 ≤ 1 - 1) (Nat.sub_le_sub_right hF 1)) (ml_sub wm_357 (Nat.le_trans (by decide : 0 ≤ 21 - 21) (Nat.sub_le_sub_right hLo 21))) (wp_bind h) (fun r7 h => rs_back0 ?_))
        exact hj31 _ h _ l0 l1 l3
  ·
    intro x8 h lv
    exact rs_vret wi_358_37 wr_358 (hQ x8 h)
theorem wc_360_371 : rx_ct (rt_P sc fm) 360 371 = some (0, 357, 1) := (by decide +kernel : rt_ct 360 371 = some (0, 357, 1))
theorem wi_360_0 : ri (rt_P sc fm) 360 0 (.lconst 1) (1) := ri_of (by decide +kernel) rfl
theorem wi_360_1 : ri (rt_P sc fm) 360 1 (.lstore_n 3) (2) := ri_of (by decide +kernel) rfl
theorem wi_360_12 : ri (rt_P sc fm) 360 12 (.lload_n 3) (13) := ri_of (by decide +kernel) rfl
theorem wi_360_13 : ri (rt_P sc fm) 360 13 (.ldc2_w 374) (16) := ri_of (by decide +kernel) rfl
theorem wi_360_16 : ri (rt_P sc fm) 360 16 (.lmul) (17) := ri_of (by decide +kernel) rfl
theorem wi_360_17 : ri (rt_P sc fm) 360 17 (.lstore_n 3) (18) := ri_of (by decide +kernel) rfl
theorem wi_360_18 : ri (rt_P sc fm) 360 18 (.goto (-16)) (21) := ri_of (by decide +kernel) rfl
theorem wi_360_2 : ri (rt_P sc fm) 360 2 (.lload_n 1) (3) := ri_of (by decide +kernel) rfl
theorem wi_360_21 : ri (rt_P sc fm) 360 21 (.lload_n 3) (22) := ri_of (by decide +kernel) rfl
theorem wi_360_22 : ri (rt_P sc fm) 360 22 (.lconst 0) (23) := ri_of (by decide +kernel) rfl
theorem wi_360_23 : ri (rt_P sc fm) 360 23 (.lcmp) (24) := ri_of (by decide +kernel) rfl
theorem wi_360_24 : ri (rt_P sc fm) 360 24 (.ifCond .le 28) (27) := ri_of (by decide +kernel) rfl
theorem wi_360_27 : ri (rt_P sc fm) 360 27 (.aload_n 0) (28) := ri_of (by decide +kernel) rfl
theorem wi_360_28 : ri (rt_P sc fm) 360 28 (.ldc2_w 376) (31) := ri_of (by decide +kernel) rfl
theorem wi_360_3 : ri (rt_P sc fm) 360 3 (.lload_n 3) (4) := ri_of (by decide +kernel) rfl
theorem wi_360_31 : ri (rt_P sc fm) 360 31 (.lload_n 1) (32) := ri_of (by decide +kernel) rfl
theorem wi_360_32 : ri (rt_P sc fm) 360 32 (.lload_n 3) (33) := ri_of (by decide +kernel) rfl
theorem wi_360_33 : ri (rt_P sc fm) 360 33 (.ldiv) (34) := ri_of (by decide +kernel) rfl
theorem wi_360_34 : ri (rt_P sc fm) 360 34 (.ldc2_w 374) (37) := ri_of (by decide +kernel) rfl
theorem wi_360_37 : ri (rt_P sc fm) 360 37 (.lrem) (38) := ri_of (by decide +kernel) rfl
theorem wi_360_38 : ri (rt_P sc fm) 360 38 (.ladd) (39) := ri_of (by decide +kernel) rfl
theorem wi_360_39 : ri (rt_P sc fm) 360 39 (.l2i) (40) := ri_of (by decide +kernel) rfl
theorem wi_360_4 : ri (rt_P sc fm) 360 4 (.ldiv) (5) := ri_of (by decide +kernel) rfl
theorem wi_360_40 : ri (rt_P sc fm) 360 40 (.invokevirtual 371) (43) := ri_of (by decide +kernel) rfl
theorem wi_360_43 : ri (rt_P sc fm) 360 43 (.lload_n 3) (44) := ri_of (by decide +kernel) rfl
theorem wi_360_44 : ri (rt_P sc fm) 360 44 (.ldc2_w 374) (47) := ri_of (by decide +kernel) rfl
theorem wi_360_47 : ri (rt_P sc fm) 360 47 (.ldiv) (48) := ri_of (by decide +kernel) rfl
theorem wi_360_48 : ri (rt_P sc fm) 360 48 (.lstore_n 3) (49) := ri_of (by decide +kernel) rfl
theorem wi_360_49 : ri (rt_P sc fm) 360 49 (.goto (-28)) (52) := ri_of (by decide +kernel) rfl
theorem wi_360_5 : ri (rt_P sc fm) 360 5 (.ldc2_w 374) (8) := ri_of (by decide +kernel) rfl
theorem wi_360_52 : ri (rt_P sc fm) 360 52 (.return_) (53) := ri_of (by decide +kernel) rfl
theorem wi_360_8 : ri (rt_P sc fm) 360 8 (.lcmp) (9) := ri_of (by decide +kernel) rfl
theorem wi_360_9 : ri (rt_P sc fm) 360 9 (.ifCond .lt 12) (12) := ri_of (by decide +kernel) rfl
theorem wk_360_374 : rx_kt (rt_P sc fm) 360 374 = some (.long (10)) := (by decide +kernel : rt_kt 360 374 = some (.long (10)))
theorem wk_360_376 : rx_kt (rt_P sc fm) 360 376 = some (.long (48)) := (by decide +kernel : rt_kt 360 376 = some (.long (48)))
theorem wr_360 : rx_rt (rt_P sc fm) 360 = none := (by decide +kernel : rt_rt 360 = none)
/-- MarkHouseModel.sayNumber(J)V -/
def d_360 (n : Nat) (a1 : Int64) (c : cS) : Option (cS) :=
  Option.bind (whl (R := (Int64)) (fun s2 : Int64 =>
    if s2 ≠ 0 then
    if (lg_cmp (a1 / s2) 10) < 0 then
      some (.inr s2)
    else
      lt ((s2 * 10) : Int64) (fun v5 =>
      some (.inl v5))
    else none) n 1)
  (fun x7 : Int64 =>
    Option.bind (whl (R := (cS)) (fun s8 : Int64 × cS =>
      if (lg_cmp s8.1 0) ≤ 0 then
        some (.inr s8.2)
      else
        if s8.1 ≠ 0 then
        Option.bind (d_357 n (((48 + ((a1 / s8.1) - (a1 / s8.1) / 10 * 10)) : Int64).toInt32) s8.2) (fun r10 =>
        lt ((s8.1 / 10) : Int64) (fun v12 =>
        some (.inl (v12, r10))))
        else none) n (x7, c))
    (fun x14 : cS =>
      some x14))
set_option maxRecDepth 100000 in
set_option maxHeartbeats 4000000 in
theorem sp_360 {F Lo n : Nat} {a1 : Int64} {c y : cS} {w : cW} {K : cS → Prop} {Q : ((Option Value) ⊕ String) → List va_E → Prop} (hw : rOK fm w) (hF : 1 ≤ F) (hLo : 21 ≤ Lo)  (h : wp (d_360 n a1 c) K) (hQ : ∀ r, K r → Q (.inl none) (hq false r y w)) : rs (rt_P sc fm) 360 F Lo 0 [(0, .ref 174), (1, .long a1)] [] (hq false c y w) Q := by
  unfold d_360 at h
  obtain ⟨lv, elv⟩ : ∃ lv : rx_L, lv = [(0, .ref 174), (1, .long a1)] := ⟨_, rfl⟩
  rw [← elv]
  have l0 : rx_ld lv 0 = some (.ref 174) := by rw [elv]; rfl
  have l1 : rx_ld lv 1 = some (.long a1) := by rw [elv]; rfl
  refine rs_pure wi_360_0 rfl ?_
  refine rs_topl (v := 1) (by decide) ?_
  refine dl_lstn wi_360_1 rfl (fun lv l3 t1 => ?_)
  have l0 := t1 _ _ (by decide) (by decide) (Or.inl rfl) l0
  have l1 := t1 _ _ (by decide) (by decide) (Or.inr (by decide)) l1
  refine whl_ex (A := fun s2 : Int64 => ∀ lv, rx_ld lv 0 = some (.ref 174) → rx_ld lv 1 = some (.long a1) → rx_ld lv 3 = some (.long s2) → rs (rt_P sc fm) 360 F Lo 2 lv [] (hq false c y w) Q) (B := (fun x7 : Int64 => ∀ lv, rx_ld lv 0 = some (.ref 174) → rx_ld lv 1 = some (.long a1) → rx_ld lv 3 = some (.long x7) → rs (rt_P sc fm) 360 F Lo 21 lv [] (hq false c y w) Q)) ?_ ?_ _ _ (wp_bind h) _ l0 l1 l3
  · intro s2 h lv l0 l1 l3
    refine rs_lldn wi_360_2 l1 ?_
    refine rs_lldn wi_360_3 l3 ?_
    obtain ⟨g3, h⟩ := wp_gd h
    refine dl_ldiv wi_360_4 g3 ?_
    refine rs_ldcl wi_360_5 wk_360_374 ?_
    refine rs_pure wi_360_8 rfl ?_
    refine rs_iflt (tg := 21) wi_360_9 ⟨by decide, by decide⟩ (fun q => ?_) (fun q => ?_)
    ·
      have h := wp_pos h q
      exact h _ l0 l1 l3
    ·
      have h := wp_neg h q
      refine rs_lldn wi_360_12 l3 ?_
      refine rs_ldcl wi_360_13 wk_360_374 ?_
      refine rs_pure wi_360_16 rfl ?_
      obtain ⟨v5, e6, h⟩ := wp_lt h
      refine rs_topl e6 ?_
      refine dl_lstn wi_360_17 rfl (fun lv l3 t4 => ?_)
      have l0 := t4 _ _ (by decide) (by decide) (Or.inl rfl) l0
      have l1 := t4 _ _ (by decide) (by decide) (Or.inr (by decide)) l1
      refine rs_goto (tg := 2) wi_360_18 ⟨by decide, by decide⟩ ?_
      exact h _ l0 l1 l3
  ·
    intro x7 h lv l0 l1 l3
    refine whl_ex (A := fun s8 : Int64 × cS => ∀ lv, rx_ld lv 0 = some (.ref 174) → rx_ld lv 1 = some (.long a1) → rx_ld lv 3 = some (.long s8.1) → rs (rt_P sc fm) 360 F Lo 21 lv [] (hq false s8.2 y w) Q) (B := (fun x14 : cS => ∀ lv, rs (rt_P sc fm) 360 F Lo 52 lv [] (hq false x14 y w) Q)) ?_ ?_ _ _ (wp_bind h) _ l0 l1 l3
    · intro s8 h lv l0 l1 l3
      refine rs_lldn wi_360_21 l3 ?_
      refine rs_pure wi_360_22 rfl ?_
      refine rs_topl (v := 0) (by decide) ?_
      refine rs_pure wi_360_23 rfl ?_
      refine rs_ifle (tg := 52) wi_360_24 ⟨by decide, by decide⟩ (fun q => ?_) (fun q => ?_)
      ·
        have h := wp_pos h q
        exact h _
      ·
        have h := wp_neg h q
        refine rs_aldn wi_360_27 l0 ?_
        refine rs_ldcl wi_360_28 wk_360_376 ?_
        refine rs_lldn wi_360_31 l1 ?_
        refine rs_lldn wi_360_32 l3 ?_
        obtain ⟨g9, h⟩ := wp_gd h
        refine dl_ldiv wi_360_33 g9 ?_
        refine rs_ldcl wi_360_34 wk_360_374 ?_
        refine dl_lrem wi_360_37 (by decide) ?_
        refine rs_pure wi_360_38 rfl ?_
        refine rs_pure wi_360_39 rfl ?_
        refine rs_V wi_360_40 wc_360_371 rfl (dq_isa tf_174_0 wa_15_357) (Nat.le_trans (by decide) hF) (ml_le wm_357 (Nat.le_trans (by decide) hLo)) rfl (sp_357 hw (Nat.le_trans (by decide : 0 ≤ 1 - 1) (Nat.sub_le_sub_right hF 1)) (ml_sub wm_357 (Nat.le_trans (by decide : 0 ≤ 21 - 21) (Nat.sub_le_sub_right hLo 21))) (wp_bind h) (fun r10 h => rs_back0 ?_))
        refine rs_lldn wi_360_43 l3 ?_
        refine rs_ldcl wi_360_44 wk_360_374 ?_
        refine dl_ldiv wi_360_47 (by decide) ?_
        obtain ⟨v12, e13, h⟩ := wp_lt h
        refine rs_topl e13 ?_
        refine dl_lstn wi_360_48 rfl (fun lv l3 t11 => ?_)
        have l0 := t11 _ _ (by decide) (by decide) (Or.inl rfl) l0
        have l1 := t11 _ _ (by decide) (by decide) (Or.inr (by decide)) l1
        refine rs_goto (tg := 21) wi_360_49 ⟨by decide, by decide⟩ ?_
        exact h _ l0 l1 l3
    ·
      intro x14 h lv
      exact rs_vret wi_360_52 wr_360 (hQ x14 h)
theorem tf_174_5 : fo false 174 15 5 (.int 0) := ⟨_, rfl, rfl, by decide, by decide⟩
theorem wa_15_358 : rz_cn 15 (rx_yn (rt_P sc fm) 358).cls = true := (by decide +kernel : rz_cn 15 (rt_yn 358).cls = true)
theorem wa_15_360 : rz_cn 15 (rx_yn (rt_P sc fm) 360).cls = true := (by decide +kernel : rz_cn 15 (rt_yn 360).cls = true)
theorem wc_116_371 : rx_ct (rt_P sc fm) 116 371 = some (0, 357, 1) := (by decide +kernel : rt_ct 116 371 = some (0, 357, 1))
theorem wc_116_393 : rx_ct (rt_P sc fm) 116 393 = some (0, 358, 1) := (by decide +kernel : rt_ct 116 393 = some (0, 358, 1))
theorem wc_116_397 : rx_ct (rt_P sc fm) 116 397 = some (0, 360, 1) := (by decide +kernel : rt_ct 116 397 = some (0, 360, 1))
theorem wc_116_652 : rx_ct (rt_P sc fm) 116 652 = some (0, 109, 1) := (by decide +kernel : rt_ct 116 652 = some (0, 109, 1))
theorem wc_116_700 : rx_ct (rt_P sc fm) 116 700 = some (0, 430, 2) := (by decide +kernel : rt_ct 116 700 = some (0, 430, 2))
theorem wc_116_706 : rx_ct (rt_P sc fm) 116 706 = some (0, 429, 3) := (by decide +kernel : rt_ct 116 706 = some (0, 429, 3))
theorem wc_116_709 : rx_ct (rt_P sc fm) 116 709 = some (0, 113, 1) := (by decide +kernel : rt_ct 116 709 = some (0, 113, 1))
theorem wc_116_712 : rx_ct (rt_P sc fm) 116 712 = some (0, 428, 2) := (by decide +kernel : rt_ct 116 712 = some (0, 428, 2))
theorem wf_116_100 : rx_ft (rt_P sc fm) 116 100 = some (15, 18) := (by decide +kernel : rt_ft 116 100 = some (15, 18))
theorem wf_116_122 : rx_ft (rt_P sc fm) 116 122 = some (15, 26) := (by decide +kernel : rt_ft 116 122 = some (15, 26))
theorem wf_116_252 : rx_ft (rt_P sc fm) 116 252 = some (15, 75) := (by decide +kernel : rt_ft 116 252 = some (15, 75))
theorem wf_116_678 : rx_ft (rt_P sc fm) 116 678 = some (15, 74) := (by decide +kernel : rt_ft 116 678 = some (15, 74))
theorem wf_116_697 : rx_ft (rt_P sc fm) 116 697 = some (15, 79) := (by decide +kernel : rt_ft 116 697 = some (15, 79))
theorem wi_116_0 : ri (rt_P sc fm) 116 0 (.aload_n 0) (1) := ri_of (by decide +kernel) rfl
theorem wi_116_1 : ri (rt_P sc fm) 116 1 (.iconst 0) (2) := ri_of (by decide +kernel) rfl
theorem wi_116_10 : ri (rt_P sc fm) 116 10 (.ifCond .eq 11) (13) := ri_of (by decide +kernel) rfl
theorem wi_116_101 : ri (rt_P sc fm) 116 101 (.bipush (-2)) (103) := ri_of (by decide +kernel) rfl
theorem wi_116_103 : ri (rt_P sc fm) 116 103 (.ireturn) (104) := ri_of (by decide +kernel) rfl
theorem wi_116_104 : ri (rt_P sc fm) 116 104 (.aload_n 0) (105) := ri_of (by decide +kernel) rfl
theorem wi_116_105 : ri (rt_P sc fm) 116 105 (.iconst 0) (106) := ri_of (by decide +kernel) rfl
theorem wi_116_106 : ri (rt_P sc fm) 116 106 (.putfield 366) (109) := ri_of (by decide +kernel) rfl
theorem wi_116_109 : ri (rt_P sc fm) 116 109 (.aload_n 0) (110) := ri_of (by decide +kernel) rfl
theorem wi_116_110 : ri (rt_P sc fm) 116 110 (.aload_n 0) (111) := ri_of (by decide +kernel) rfl
theorem wi_116_111 : ri (rt_P sc fm) 116 111 (.getfield 100) (114) := ri_of (by decide +kernel) rfl
theorem wi_116_114 : ri (rt_P sc fm) 116 114 (.bipush 12) (116) := ri_of (by decide +kernel) rfl
theorem wi_116_116 : ri (rt_P sc fm) 116 116 (.iload_n 2) (117) := ri_of (by decide +kernel) rfl
theorem wi_116_117 : ri (rt_P sc fm) 116 117 (.bipush 100) (119) := ri_of (by decide +kernel) rfl
theorem wi_116_119 : ri (rt_P sc fm) 116 119 (.isub) (120) := ri_of (by decide +kernel) rfl
theorem wi_116_120 : ri (rt_P sc fm) 116 120 (.imul) (121) := ri_of (by decide +kernel) rfl
theorem wi_116_121 : ri (rt_P sc fm) 116 121 (.iload 5) (123) := ri_of (by decide +kernel) rfl
theorem wi_116_123 : ri (rt_P sc fm) 116 123 (.iadd) (124) := ri_of (by decide +kernel) rfl
theorem wi_116_124 : ri (rt_P sc fm) 116 124 (.laload) (125) := ri_of (by decide +kernel) rfl
theorem wi_116_125 : ri (rt_P sc fm) 116 125 (.invokevirtual 393) (128) := ri_of (by decide +kernel) rfl
theorem wi_116_128 : ri (rt_P sc fm) 116 128 (.iconst 3) (129) := ri_of (by decide +kernel) rfl
theorem wi_116_129 : ri (rt_P sc fm) 116 129 (.ireturn) (130) := ri_of (by decide +kernel) rfl
theorem wi_116_13 : ri (rt_P sc fm) 116 13 (.aload_n 0) (14) := ri_of (by decide +kernel) rfl
theorem wi_116_130 : ri (rt_P sc fm) 116 130 (.aload_n 0) (131) := ri_of (by decide +kernel) rfl
theorem wi_116_131 : ri (rt_P sc fm) 116 131 (.aload_n 0) (132) := ri_of (by decide +kernel) rfl
theorem wi_116_132 : ri (rt_P sc fm) 116 132 (.getfield 252) (135) := ri_of (by decide +kernel) rfl
theorem wi_116_135 : ri (rt_P sc fm) 116 135 (.iload_n 3) (136) := ri_of (by decide +kernel) rfl
theorem wi_116_136 : ri (rt_P sc fm) 116 136 (.iaload) (137) := ri_of (by decide +kernel) rfl
theorem wi_116_137 : ri (rt_P sc fm) 116 137 (.iload_n 2) (138) := ri_of (by decide +kernel) rfl
theorem wi_116_138 : ri (rt_P sc fm) 116 138 (.iload 4) (140) := ri_of (by decide +kernel) rfl
theorem wi_116_14 : ri (rt_P sc fm) 116 14 (.iload_n 2) (15) := ri_of (by decide +kernel) rfl
theorem wi_116_140 : ri (rt_P sc fm) 116 140 (.invokevirtual 706) (143) := ri_of (by decide +kernel) rfl
theorem wi_116_143 : ri (rt_P sc fm) 116 143 (.istore 5) (145) := ri_of (by decide +kernel) rfl
theorem wi_116_145 : ri (rt_P sc fm) 116 145 (.iload 5) (147) := ri_of (by decide +kernel) rfl
theorem wi_116_147 : ri (rt_P sc fm) 116 147 (.ifCond .ge 6) (150) := ri_of (by decide +kernel) rfl
theorem wi_116_15 : ri (rt_P sc fm) 116 15 (.invokevirtual 709) (18) := ri_of (by decide +kernel) rfl
theorem wi_116_150 : ri (rt_P sc fm) 116 150 (.iload 5) (152) := ri_of (by decide +kernel) rfl
theorem wi_116_152 : ri (rt_P sc fm) 116 152 (.ireturn) (153) := ri_of (by decide +kernel) rfl
theorem wi_116_153 : ri (rt_P sc fm) 116 153 (.aload_n 0) (154) := ri_of (by decide +kernel) rfl
theorem wi_116_154 : ri (rt_P sc fm) 116 154 (.iconst 0) (155) := ri_of (by decide +kernel) rfl
theorem wi_116_155 : ri (rt_P sc fm) 116 155 (.putfield 366) (158) := ri_of (by decide +kernel) rfl
theorem wi_116_158 : ri (rt_P sc fm) 116 158 (.iload 5) (160) := ri_of (by decide +kernel) rfl
theorem wi_116_160 : ri (rt_P sc fm) 116 160 (.iconst 2) (161) := ri_of (by decide +kernel) rfl
theorem wi_116_161 : ri (rt_P sc fm) 116 161 (.if_icmp .ne 14) (164) := ri_of (by decide +kernel) rfl
theorem wi_116_164 : ri (rt_P sc fm) 116 164 (.aload_n 0) (165) := ri_of (by decide +kernel) rfl
theorem wi_116_165 : ri (rt_P sc fm) 116 165 (.aload_n 0) (166) := ri_of (by decide +kernel) rfl
theorem wi_116_166 : ri (rt_P sc fm) 116 166 (.getfield 697) (169) := ri_of (by decide +kernel) rfl
theorem wi_116_169 : ri (rt_P sc fm) 116 169 (.invokevirtual 393) (172) := ri_of (by decide +kernel) rfl
theorem wi_116_172 : ri (rt_P sc fm) 116 172 (.goto 43) (175) := ri_of (by decide +kernel) rfl
theorem wi_116_175 : ri (rt_P sc fm) 116 175 (.aload_n 0) (176) := ri_of (by decide +kernel) rfl
theorem wi_116_176 : ri (rt_P sc fm) 116 176 (.getfield 697) (179) := ri_of (by decide +kernel) rfl
theorem wi_116_179 : ri (rt_P sc fm) 116 179 (.lconst 0) (180) := ri_of (by decide +kernel) rfl
theorem wi_116_18 : ri (rt_P sc fm) 116 18 (.ifCond .ne 5) (21) := ri_of (by decide +kernel) rfl
theorem wi_116_180 : ri (rt_P sc fm) 116 180 (.lcmp) (181) := ri_of (by decide +kernel) rfl
theorem wi_116_181 : ri (rt_P sc fm) 116 181 (.ifCond .ge 9) (184) := ri_of (by decide +kernel) rfl
theorem wi_116_184 : ri (rt_P sc fm) 116 184 (.aload_n 0) (185) := ri_of (by decide +kernel) rfl
theorem wi_116_185 : ri (rt_P sc fm) 116 185 (.bipush 45) (187) := ri_of (by decide +kernel) rfl
theorem wi_116_187 : ri (rt_P sc fm) 116 187 (.invokevirtual 371) (190) := ri_of (by decide +kernel) rfl
theorem wi_116_190 : ri (rt_P sc fm) 116 190 (.aload_n 0) (191) := ri_of (by decide +kernel) rfl
theorem wi_116_191 : ri (rt_P sc fm) 116 191 (.aload_n 0) (192) := ri_of (by decide +kernel) rfl
theorem wi_116_192 : ri (rt_P sc fm) 116 192 (.getfield 697) (195) := ri_of (by decide +kernel) rfl
theorem wi_116_195 : ri (rt_P sc fm) 116 195 (.lconst 0) (196) := ri_of (by decide +kernel) rfl
theorem wi_116_196 : ri (rt_P sc fm) 116 196 (.lcmp) (197) := ri_of (by decide +kernel) rfl
theorem wi_116_197 : ri (rt_P sc fm) 116 197 (.ifCond .ge 11) (200) := ri_of (by decide +kernel) rfl
theorem wi_116_2 : ri (rt_P sc fm) 116 2 (.putfield 356) (5) := ri_of (by decide +kernel) rfl
theorem wi_116_200 : ri (rt_P sc fm) 116 200 (.aload_n 0) (201) := ri_of (by decide +kernel) rfl
theorem wi_116_201 : ri (rt_P sc fm) 116 201 (.getfield 697) (204) := ri_of (by decide +kernel) rfl
theorem wi_116_204 : ri (rt_P sc fm) 116 204 (.lneg) (205) := ri_of (by decide +kernel) rfl
theorem wi_116_205 : ri (rt_P sc fm) 116 205 (.goto 7) (208) := ri_of (by decide +kernel) rfl
theorem wi_116_208 : ri (rt_P sc fm) 116 208 (.aload_n 0) (209) := ri_of (by decide +kernel) rfl
theorem wi_116_209 : ri (rt_P sc fm) 116 209 (.getfield 697) (212) := ri_of (by decide +kernel) rfl
theorem wi_116_21 : ri (rt_P sc fm) 116 21 (.iconst (-1)) (22) := ri_of (by decide +kernel) rfl
theorem wi_116_212 : ri (rt_P sc fm) 116 212 (.invokevirtual 397) (215) := ri_of (by decide +kernel) rfl
theorem wi_116_215 : ri (rt_P sc fm) 116 215 (.iload 5) (217) := ri_of (by decide +kernel) rfl
theorem wi_116_217 : ri (rt_P sc fm) 116 217 (.ireturn) (218) := ri_of (by decide +kernel) rfl
theorem wi_116_22 : ri (rt_P sc fm) 116 22 (.ireturn) (23) := ri_of (by decide +kernel) rfl
theorem wi_116_23 : ri (rt_P sc fm) 116 23 (.aload_n 0) (24) := ri_of (by decide +kernel) rfl
theorem wi_116_24 : ri (rt_P sc fm) 116 24 (.iload_n 1) (25) := ri_of (by decide +kernel) rfl
theorem wi_116_25 : ri (rt_P sc fm) 116 25 (.iload_n 2) (26) := ri_of (by decide +kernel) rfl
theorem wi_116_26 : ri (rt_P sc fm) 116 26 (.invokevirtual 712) (29) := ri_of (by decide +kernel) rfl
theorem wi_116_29 : ri (rt_P sc fm) 116 29 (.iload_n 3) (30) := ri_of (by decide +kernel) rfl
theorem wi_116_30 : ri (rt_P sc fm) 116 30 (.ifCond .lt 37) (33) := ri_of (by decide +kernel) rfl
theorem wi_116_33 : ri (rt_P sc fm) 116 33 (.iload_n 3) (34) := ri_of (by decide +kernel) rfl
theorem wi_116_34 : ri (rt_P sc fm) 116 34 (.aload_n 0) (35) := ri_of (by decide +kernel) rfl
theorem wi_116_35 : ri (rt_P sc fm) 116 35 (.getfield 678) (38) := ri_of (by decide +kernel) rfl
theorem wi_116_38 : ri (rt_P sc fm) 116 38 (.if_icmp .ge 29) (41) := ri_of (by decide +kernel) rfl
theorem wi_116_41 : ri (rt_P sc fm) 116 41 (.iload 4) (43) := ri_of (by decide +kernel) rfl
theorem wi_116_43 : ri (rt_P sc fm) 116 43 (.ifCond .lt 24) (46) := ri_of (by decide +kernel) rfl
theorem wi_116_46 : ri (rt_P sc fm) 116 46 (.iload 4) (48) := ri_of (by decide +kernel) rfl
theorem wi_116_48 : ri (rt_P sc fm) 116 48 (.iload_n 2) (49) := ri_of (by decide +kernel) rfl
theorem wi_116_49 : ri (rt_P sc fm) 116 49 (.bipush 100) (51) := ri_of (by decide +kernel) rfl
theorem wi_116_5 : ri (rt_P sc fm) 116 5 (.aload_n 0) (6) := ri_of (by decide +kernel) rfl
theorem wi_116_51 : ri (rt_P sc fm) 116 51 (.if_icmp .ge 12) (54) := ri_of (by decide +kernel) rfl
theorem wi_116_54 : ri (rt_P sc fm) 116 54 (.aload_n 0) (55) := ri_of (by decide +kernel) rfl
theorem wi_116_55 : ri (rt_P sc fm) 116 55 (.getfield 122) (58) := ri_of (by decide +kernel) rfl
theorem wi_116_58 : ri (rt_P sc fm) 116 58 (.iload_n 2) (59) := ri_of (by decide +kernel) rfl
theorem wi_116_59 : ri (rt_P sc fm) 116 59 (.iaload) (60) := ri_of (by decide +kernel) rfl
theorem wi_116_6 : ri (rt_P sc fm) 116 6 (.iload_n 1) (7) := ri_of (by decide +kernel) rfl
theorem wi_116_60 : ri (rt_P sc fm) 116 60 (.goto 4) (63) := ri_of (by decide +kernel) rfl
theorem wi_116_63 : ri (rt_P sc fm) 116 63 (.iconst 1) (64) := ri_of (by decide +kernel) rfl
theorem wi_116_64 : ri (rt_P sc fm) 116 64 (.if_icmp .lt 5) (67) := ri_of (by decide +kernel) rfl
theorem wi_116_67 : ri (rt_P sc fm) 116 67 (.iconst (-1)) (68) := ri_of (by decide +kernel) rfl
theorem wi_116_68 : ri (rt_P sc fm) 116 68 (.ireturn) (69) := ri_of (by decide +kernel) rfl
theorem wi_116_69 : ri (rt_P sc fm) 116 69 (.aload_n 0) (70) := ri_of (by decide +kernel) rfl
theorem wi_116_7 : ri (rt_P sc fm) 116 7 (.invokevirtual 652) (10) := ri_of (by decide +kernel) rfl
theorem wi_116_70 : ri (rt_P sc fm) 116 70 (.iconst 0) (71) := ri_of (by decide +kernel) rfl
theorem wi_116_71 : ri (rt_P sc fm) 116 71 (.putfield 378) (74) := ri_of (by decide +kernel) rfl
theorem wi_116_74 : ri (rt_P sc fm) 116 74 (.iload_n 2) (75) := ri_of (by decide +kernel) rfl
theorem wi_116_75 : ri (rt_P sc fm) 116 75 (.bipush 100) (77) := ri_of (by decide +kernel) rfl
theorem wi_116_77 : ri (rt_P sc fm) 116 77 (.if_icmp .lt 53) (80) := ri_of (by decide +kernel) rfl
theorem wi_116_80 : ri (rt_P sc fm) 116 80 (.aload_n 0) (81) := ri_of (by decide +kernel) rfl
theorem wi_116_81 : ri (rt_P sc fm) 116 81 (.aload_n 0) (82) := ri_of (by decide +kernel) rfl
theorem wi_116_82 : ri (rt_P sc fm) 116 82 (.getfield 252) (85) := ri_of (by decide +kernel) rfl
theorem wi_116_85 : ri (rt_P sc fm) 116 85 (.iload_n 3) (86) := ri_of (by decide +kernel) rfl
theorem wi_116_86 : ri (rt_P sc fm) 116 86 (.iaload) (87) := ri_of (by decide +kernel) rfl
theorem wi_116_87 : ri (rt_P sc fm) 116 87 (.iload_n 2) (88) := ri_of (by decide +kernel) rfl
theorem wi_116_88 : ri (rt_P sc fm) 116 88 (.bipush 100) (90) := ri_of (by decide +kernel) rfl
theorem wi_116_90 : ri (rt_P sc fm) 116 90 (.isub) (91) := ri_of (by decide +kernel) rfl
theorem wi_116_91 : ri (rt_P sc fm) 116 91 (.invokevirtual 700) (94) := ri_of (by decide +kernel) rfl
theorem wi_116_94 : ri (rt_P sc fm) 116 94 (.istore 5) (96) := ri_of (by decide +kernel) rfl
theorem wi_116_96 : ri (rt_P sc fm) 116 96 (.iload 5) (98) := ri_of (by decide +kernel) rfl
theorem wi_116_98 : ri (rt_P sc fm) 116 98 (.ifCond .ge 6) (101) := ri_of (by decide +kernel) rfl
theorem wm_358 : rx_ml (rt_P sc fm) 358 = 4 := (by decide +kernel : rt_ml 358 = 4)
theorem wm_360 : rx_ml (rt_P sc fm) 360 = 5 := (by decide +kernel : rt_ml 360 = 5)
theorem wp_116_356 : rx_pt (rt_P sc fm) 116 356 = some (15, 0, .int) := (by decide +kernel : rt_pt 116 356 = some (15, 0, .int))
theorem wp_116_366 : rx_pt (rt_P sc fm) 116 366 = some (15, 4, .int) := (by decide +kernel : rt_pt 116 366 = some (15, 4, .int))
theorem wp_116_378 : rx_pt (rt_P sc fm) 116 378 = some (15, 5, .boolean) := (by decide +kernel : rt_pt 116 378 = some (15, 5, .boolean))
theorem wr_116 : rx_rt (rt_P sc fm) 116 = (some FieldType.int) := (by decide +kernel : rt_rt 116 = (some FieldType.int))
/-- MarkHouseModel.ask(IIII)I -/
def d_116 (n : Nat) (a1 : Int32) (a2 : Int32) (a3 : Int32) (a4 : Int32) (c : cS) : Option (Int32 × cS) :=
  lt (pI c 174 0 0) (fun c1 =>
  Option.bind (d_109 n a1 c1) (fun v3 =>
  jn (fun p4 : Unit =>
    some ((-1), c1))
  (fun j21 =>
  if v3 = 0 then
    j21 ()
  else
    Option.bind (d_113 n a2 c1) (fun v5 =>
    if v5 = 0 then
      j21 ()
    else
      Option.bind (d_428 n a1 a2 c1) (fun r6 =>
      jn (fun p7 : Unit =>
        some ((-1), r6))
      (fun j67 =>
      if a3 < 0 then
        j67 ()
      else
        if (r6.1 174 74) ≤ a3 then
          j67 ()
        else
          if a4 < 0 then
            j67 ()
          else
            jn (fun p8 : Int32 =>
              if a4 < p8 then
                lt (pI r6 174 5 0) (fun c9 =>
                if a2 < 100 then
                  if ib a3 20 then
                  Option.bind (d_429 n (c9.1 233 (ix a3)) a2 a4 c9) (fun r12 =>
                  if 0 ≤ r12.1 then
                    lt (pI r12.2 174 4 0) (fun c14 =>
                    jn (fun p16 : cS =>
                      some (r12.1, p16))
                    (fun j215 =>
                    if r12.1 = 2 then
                      Option.bind (d_358 n (c14.2 174 79) c14) (fun r21 =>
                      j215 r21)
                    else
                      jn (fun p17 : cS =>
                        jn (fun p18 : Int64 =>
                          Option.bind (d_360 n p18 p17) (fun r19 =>
                          j215 r19))
                        (fun j212 =>
                        if 0 ≤ (lg_cmp (p17.2 174 79) 0) then
                          j212 (p17.2 174 79)
                        else
                          j212 (-(p17.2 174 79))))
                      (fun j190 =>
                      if 0 ≤ (lg_cmp (c14.2 174 79) 0) then
                        j190 c14
                      else
                        Option.bind (d_357 n 45 c14) (fun r20 =>
                        j190 r20))))
                  else
                    some (r12.1, r12.2))
                  else none
                else
                  if ib a3 20 then
                  Option.bind (d_430 n (c9.1 233 (ix a3)) (a2 - 100) c9) (fun v23 =>
                  if 0 ≤ v23 then
                    lt (pI c9 174 4 0) (fun c25 =>
                    if ib ((12 * (a2 - 100)) + v23) 48 then
                    Option.bind (d_358 n (c25.2 183 (ix ((12 * (a2 - 100)) + v23))) c25) (fun r28 =>
                    some (3, r28))
                    else none)
                  else
                    some ((-2), c9))
                  else none)
              else
                j67 ())
            (fun j64 =>
            if 100 ≤ a2 then
              j64 1
            else
              if ib a2 12 then
              j64 (r6.1 190 (ix a2))
              else none)))))))
set_option maxRecDepth 100000 in
set_option maxHeartbeats 4000000 in
theorem sp_116 {F Lo n : Nat} {a1 : Int32} {a2 : Int32} {a3 : Int32} {a4 : Int32} {c y : cS} {w : cW} {K : Int32 × cS → Prop} {Q : ((Option Value) ⊕ String) → List va_E → Prop} (hw : rOK fm w) (hF : 4 ≤ F) (hLo : 105 ≤ Lo)  (h : wp (d_116 n a1 a2 a3 a4 c) K) (hQ : ∀ r, K r → Q (.inl (some (.int r.1))) (hq false r.2 y w)) : rs (rt_P sc fm) 116 F Lo 0 [(0, .ref 174), (1, .int a1), (2, .int a2), (3, .int a3), (4, .int a4)] [] (hq false c y w) Q := by
  unfold d_116 at h
  obtain ⟨lv, elv⟩ : ∃ lv : rx_L, lv = [(0, .ref 174), (1, .int a1), (2, .int a2), (3, .int a3), (4, .int a4)] := ⟨_, rfl⟩
  rw [← elv]
  have l0 : rx_ld lv 0 = some (.ref 174) := by rw [elv]; rfl
  have l1 : rx_ld lv 1 = some (.int a1) := by rw [elv]; rfl
  have l2 : rx_ld lv 2 = some (.int a2) := by rw [elv]; rfl
  have l3 : rx_ld lv 3 = some (.int a3) := by rw [elv]; rfl
  have l4 : rx_ld lv 4 = some (.int a4) := by rw [elv]; rfl
  refine rs_aldn wi_116_0 l0 ?_
  refine rs_pure wi_116_1 rfl ?_
  refine rs_topi (v := 0) (by decide) ?_
  obtain ⟨c1, e2, h⟩ := wp_lt h
  refine dq_pi wi_116_2 wp_116_356 tf_174_0 rfl rfl e2 ?_
  refine rs_aldn wi_116_5 l0 ?_
  refine rs_ildn wi_116_6 l1 ?_
  refine rs_V wi_116_7 wc_116_652 rfl (dq_isa tf_174_0 wa_15_109) (Nat.le_trans (by decide) hF) (ml_le wm_109 (Nat.le_trans (by decide) hLo)) rfl (sp_109 hw (Nat.le_trans (by decide : 0 ≤ 4 - 1) (Nat.sub_le_sub_right hF 1)) (ml_sub wm_109 (Nat.le_trans (by decide : 0 ≤ 105 - 24) (Nat.sub_le_sub_right hLo 24))) (wp_bind h) (fun v3 h => rs_back1 ?_))
  refine wp_jn (B := fun p4 : Unit => ∀ lv, rs (rt_P sc fm) 116 F Lo 21 lv [] (hq false c1 y w) Q) h (fun p4 h lv => ?_) (fun j21 hj21 h => ?_)
  ·
    refine rs_pure wi_116_21 rfl ?_
    refine rs_topi (v := (-1)) (by decide) ?_
    exact rs_iret wi_116_22 wr_116 rfl (hQ ((-1), c1) h)
  refine rs_ifeq (tg := 21) wi_116_10 ⟨by decide, by decide⟩ (fun q => ?_) (fun q => ?_)
  ·
    have h := wp_pos h q
    exact hj21 _ h _
  ·
    have h := wp_neg h q
    refine rs_aldn wi_116_13 l0 ?_
    refine rs_ildn wi_116_14 l2 ?_
    refine rs_V wi_116_15 wc_116_709 rfl (dq_isa tf_174_0 wa_15_113) (Nat.le_trans (by decide) hF) (ml_le wm_113 (Nat.le_trans (by decide) hLo)) rfl (sp_113 hw (Nat.le_trans (by decide : 0 ≤ 4 - 1) (Nat.sub_le_sub_right hF 1)) (ml_sub wm_113 (Nat.le_trans (by decide : 0 ≤ 105 - 21) (Nat.sub_le_sub_right hLo 21))) (wp_bind h) (fun v5 h => rs_back1 ?_))
    refine rs_ifne (tg := 23) wi_116_18 ⟨by decide, by decide⟩ (fun q => ?_) (fun q => ?_)
    ·
      have h := wp_neg h q
      refine rs_aldn wi_116_23 l0 ?_
      refine rs_ildn wi_116_24 l1 ?_
      refine rs_ildn wi_116_25 l2 ?_
      refine rs_V wi_116_26 wc_116_712 rfl (dq_isa tf_174_0 wa_15_428) (Nat.le_trans (by decide) hF) (ml_le wm_428 (Nat.le_trans (by decide) hLo)) rfl (sp_428 hw (Nat.le_trans (by decide : 3 ≤ 4 - 1) (Nat.sub_le_sub_right hF 1)) (ml_sub wm_428 (Nat.le_trans (by decide : 77 ≤ 105 - 28) (Nat.sub_le_sub_right hLo 28))) (wp_bind h) (fun r6 h => rs_back0 ?_))
      refine rs_ildn wi_116_29 l3 ?_
      refine wp_jn (B := fun p7 : Unit => ∀ lv, rs (rt_P sc fm) 116 F Lo 67 lv [] (hq false r6 y w) Q) h (fun p7 h lv => ?_) (fun j67 hj67 h => ?_)
      ·
        refine rs_pure wi_116_67 rfl ?_
        refine rs_topi (v := (-1)) (by decide) ?_
        exact rs_iret wi_116_68 wr_116 rfl (hQ ((-1), r6) h)
      refine rs_iflt (tg := 67) wi_116_30 ⟨by decide, by decide⟩ (fun q => ?_) (fun q => ?_)
      ·
        have h := wp_pos h q
        exact hj67 _ h _
      ·
        have h := wp_neg h q
        refine rs_ildn wi_116_33 l3 ?_
        refine rs_aldn wi_116_34 l0 ?_
        refine dq_gi wi_116_35 wf_116_678 tf_174_74 ?_
        refine rs_icge (tg := 67) wi_116_38 ⟨by decide, by decide⟩ (fun q => ?_) (fun q => ?_)
        ·
          have h := wp_pos h q
          exact hj67 _ h _
        ·
          have h := wp_neg h q
          refine rs_ild wi_116_41 l4 ?_
          refine rs_iflt (tg := 67) wi_116_43 ⟨by decide, by decide⟩ (fun q => ?_) (fun q => ?_)
          ·
            have h := wp_pos h q
            exact hj67 _ h _
          ·
            have h := wp_neg h q
            refine rs_ild wi_116_46 l4 ?_
            refine rs_ildn wi_116_48 l2 ?_
            refine rs_pure wi_116_49 rfl ?_
            refine rs_topi (v := 100) (by decide) ?_
            refine wp_jn (B := fun p8 : Int32 => ∀ lv, rx_ld lv 0 = some (.ref 174) → rx_ld lv 2 = some (.int a2) → rx_ld lv 3 = some (.int a3) → rx_ld lv 4 = some (.int a4) → rs (rt_P sc fm) 116 F Lo 64 lv [.int p8, .int a4] (hq false r6 y w) Q) h (fun p8 h lv l0 l2 l3 l4 => ?_) (fun j64 hj64 h => ?_)
            ·
              refine rs_iclt (tg := 69) wi_116_64 ⟨by decide, by decide⟩ (fun q => ?_) (fun q => ?_)
              ·
                have h := wp_pos h q
                refine rs_aldn wi_116_69 l0 ?_
                refine rs_pure wi_116_70 rfl ?_
                refine rs_topi (v := 0) (by decide) ?_
                obtain ⟨c9, e10, h⟩ := wp_lt h
                refine dq_pi wi_116_71 wp_116_378 tf_174_5 (nb_n (by decide)) (nb_f (by decide)) e10 ?_
                refine rs_ildn wi_116_74 l2 ?_
                refine rs_pure wi_116_75 rfl ?_
                refine rs_topi (v := 100) (by decide) ?_
                refine rs_iclt (tg := 130) wi_116_77 ⟨by decide, by decide⟩ (fun q => ?_) (fun q => ?_)
                ·
                  have h := wp_pos h q
                  refine rs_aldn wi_116_130 l0 ?_
                  refine rs_aldn wi_116_131 l0 ?_
                  refine dq_gr wi_116_132 wf_116_252 tf_174_75 ?_
                  refine rs_ildn wi_116_135 l3 ?_
                  obtain ⟨g11, h⟩ := wp_gd h
                  refine dq_iald wi_116_136 t_233 g11 ?_
                  refine rs_ildn wi_116_137 l2 ?_
                  refine rs_ild wi_116_138 l4 ?_
                  refine rs_V wi_116_140 wc_116_706 rfl (dq_isa tf_174_0 wa_15_429) (Nat.le_trans (by decide) hF) (ml_le wm_429 (Nat.le_trans (by decide) hLo)) rfl (sp_429 hw (Nat.le_trans (by decide : 0 ≤ 4 - 1) (Nat.sub_le_sub_right hF 1)) (ml_sub wm_429 (Nat.le_trans (by decide : 0 ≤ 105 - 26) (Nat.sub_le_sub_right hLo 26))) (wp_bind h) (fun r12 h => rs_back1 ?_))
                  refine dl_ist wi_116_143 rfl (fun lv l5 t13 => ?_)
                  have l0 := t13 _ _ (by decide) (Or.inl rfl) l0
                  refine rs_ild wi_116_145 l5 ?_
                  refine rs_ifge (tg := 153) wi_116_147 ⟨by decide, by decide⟩ (fun q => ?_) (fun q => ?_)
                  ·
                    have h := wp_pos h q
                    refine rs_aldn wi_116_153 l0 ?_
                    refine rs_pure wi_116_154 rfl ?_
                    refine rs_topi (v := 0) (by decide) ?_
                    obtain ⟨c14, e15, h⟩ := wp_lt h
                    refine dq_pi wi_116_155 wp_116_366 tf_174_4 rfl rfl e15 ?_
                    refine rs_ild wi_116_158 l5 ?_
                    refine rs_pure wi_116_160 rfl ?_
                    refine rs_topi (v := 2) (by decide) ?_
                    refine wp_jn (B := fun p16 : cS => ∀ lv, rx_ld lv 5 = some (.int r12.1) → rs (rt_P sc fm) 116 F Lo 215 lv [] (hq false p16 y w) Q) h (fun p16 h lv l5 => ?_) (fun j215 hj215 h => ?_)
                    ·
                      refine rs_ild wi_116_215 l5 ?_
                      exact rs_iret wi_116_217 wr_116 rfl (hQ (r12.1, p16) h)
                    refine rs_icne (tg := 175) wi_116_161 ⟨by decide, by decide⟩ (fun q => ?_) (fun q => ?_)
                    ·
                      have h := wp_neg h q
                      refine rs_aldn wi_116_175 l0 ?_
                      refine dq_gl wi_116_176 wf_116_697 tf_174_79 ?_
                      refine rs_pure wi_116_179 rfl ?_
                      refine rs_topl (v := 0) (by decide) ?_
                      refine rs_pure wi_116_180 rfl ?_
                      refine wp_jn (B := fun p17 : cS => ∀ lv, rx_ld lv 0 = some (.ref 174) → rx_ld lv 5 = some (.int r12.1) → rs (rt_P sc fm) 116 F Lo 190 lv [] (hq false p17 y w) Q) h (fun p17 h lv l0 l5 => ?_) (fun j190 hj190 h => ?_)
                      ·
                        refine rs_aldn wi_116_190 l0 ?_
                        refine rs_aldn wi_116_191 l0 ?_
                        refine dq_gl wi_116_192 wf_116_697 tf_174_79 ?_
                        refine rs_pure wi_116_195 rfl ?_
                        refine rs_topl (v := 0) (by decide) ?_
                        refine rs_pure wi_116_196 rfl ?_
                        refine wp_jn (B := fun p18 : Int64 => ∀ lv, rx_ld lv 5 = some (.int r12.1) → rs (rt_P sc fm) 116 F Lo 212 lv [.long p18, .ref 174] (hq false p17 y w) Q) h (fun p18 h lv l5 => ?_) (fun j212 hj212 h => ?_)
                        ·
                          refine rs_V wi_116_212 wc_116_397 rfl (dq_isa tf_174_0 wa_15_360) (Nat.le_trans (by decide) hF) (ml_le wm_360 (Nat.le_trans (by decide) hLo)) rfl (sp_360 hw (Nat.le_trans (by decide : 1 ≤ 4 - 1) (Nat.sub_le_sub_right hF 1)) (ml_sub wm_360 (Nat.le_trans (by decide : 21 ≤ 105 - 24) (Nat.sub_le_sub_right hLo 24))) (wp_bind h) (fun r19 h => rs_back0 ?_))
                          exact hj215 _ h _ l5
                        refine rs_ifge (tg := 208) wi_116_197 ⟨by decide, by decide⟩ (fun q => ?_) (fun q => ?_)
                        ·
                          have h := wp_pos h q
                          refine rs_aldn wi_116_208 l0 ?_
                          refine dq_gl wi_116_209 wf_116_697 tf_174_79 ?_
                          exact hj212 _ h _ l5
                        ·
                          have h := wp_neg h q
                          refine rs_aldn wi_116_200 l0 ?_
                          refine dq_gl wi_116_201 wf_116_697 tf_174_79 ?_
                          refine rs_pure wi_116_204 rfl ?_
                          refine rs_goto (tg := 212) wi_116_205 ⟨by decide, by decide⟩ ?_
                          exact hj212 _ h _ l5
                      refine rs_ifge (tg := 190) wi_116_181 ⟨by decide, by decide⟩ (fun q => ?_) (fun q => ?_)
                      ·
                        have h := wp_pos h q
                        exact hj190 _ h _ l0 l5
                      ·
                        have h := wp_neg h q
                        refine rs_aldn wi_116_184 l0 ?_
                        refine rs_pure wi_116_185 rfl ?_
                        refine rs_topi (v := 45) (by decide) ?_
                        refine rs_V wi_116_187 wc_116_371 rfl (dq_isa tf_174_0 wa_15_357) (Nat.le_trans (by decide) hF) (ml_le wm_357 (Nat.le_trans (by decide) hLo)) rfl (sp_357 hw (Nat.le_trans (by decide : 0 ≤ 4 - 1) (Nat.sub_le_sub_right hF 1)) (ml_sub wm_357 (Nat.le_trans (by decide : 0 ≤ 105 - 21) (Nat.sub_le_sub_right hLo 21))) (wp_bind h) (fun r20 h => rs_back0 ?_))
                        exact hj190 _ h _ l0 l5
                    ·
                      have h := wp_pos h q
                      refine rs_aldn wi_116_164 l0 ?_
                      refine rs_aldn wi_116_165 l0 ?_
                      refine dq_gl wi_116_166 wf_116_697 tf_174_79 ?_
                      refine rs_V wi_116_169 wc_116_393 rfl (dq_isa tf_174_0 wa_15_358) (Nat.le_trans (by decide) hF) (ml_le wm_358 (Nat.le_trans (by decide) hLo)) rfl (sp_358 hw (Nat.le_trans (by decide : 1 ≤ 4 - 1) (Nat.sub_le_sub_right hF 1)) (ml_sub wm_358 (Nat.le_trans (by decide : 21 ≤ 105 - 23) (Nat.sub_le_sub_right hLo 23))) (wp_bind h) (fun r21 h => rs_back0 ?_))
                      refine rs_goto (tg := 215) wi_116_172 ⟨by decide, by decide⟩ ?_
                      exact hj215 _ h _ l5
                  ·
                    have h := wp_neg h q
                    refine rs_ild wi_116_150 l5 ?_
                    exact rs_iret wi_116_152 wr_116 rfl (hQ (r12.1, r12.2) h)
                ·
                  have h := wp_neg h q
                  refine rs_aldn wi_116_80 l0 ?_
                  refine rs_aldn wi_116_81 l0 ?_
                  refine dq_gr wi_116_82 wf_116_252 tf_174_75 ?_
                  refine rs_ildn wi_116_85 l3 ?_
                  obtain ⟨g22, h⟩ := wp_gd h
                  refine dq_iald wi_116_86 t_233 g22 ?_
                  refine rs_ildn wi_116_87 l2 ?_
                  refine rs_pure wi_116_88 rfl ?_
                  refine rs_topi (v := 100) (by decide) ?_
                  refine rs_pure wi_116_90 rfl ?_
                  refine rs_V wi_116_91 wc_116_700 rfl (dq_isa tf_174_0 wa_15_430) (Nat.le_trans (by decide) hF) (ml_le wm_430 (Nat.le_trans (by decide) hLo)) rfl (sp_430 hw (Nat.le_trans (by decide : 1 ≤ 4 - 1) (Nat.sub_le_sub_right hF 1)) (ml_sub wm_430 (Nat.le_trans (by decide : 24 ≤ 105 - 25) (Nat.sub_le_sub_right hLo 25))) (wp_bind h) (fun v23 h => rs_back1 ?_))
                  refine dl_ist wi_116_94 rfl (fun lv l5 t24 => ?_)
                  have l0 := t24 _ _ (by decide) (Or.inl rfl) l0
                  have l2 := t24 _ _ (by decide) (Or.inl rfl) l2
                  refine rs_ild wi_116_96 l5 ?_
                  refine rs_ifge (tg := 104) wi_116_98 ⟨by decide, by decide⟩ (fun q => ?_) (fun q => ?_)
                  ·
                    have h := wp_pos h q
                    refine rs_aldn wi_116_104 l0 ?_
                    refine rs_pure wi_116_105 rfl ?_
                    refine rs_topi (v := 0) (by decide) ?_
                    obtain ⟨c25, e26, h⟩ := wp_lt h
                    refine dq_pi wi_116_106 wp_116_366 tf_174_4 rfl rfl e26 ?_
                    refine rs_aldn wi_116_109 l0 ?_
                    refine rs_aldn wi_116_110 l0 ?_
                    refine dq_gr wi_116_111 wf_116_100 tf_174_18 ?_
                    refine rs_pure wi_116_114 rfl ?_
                    refine rs_topi (v := 12) (by decide) ?_
                    refine rs_ildn wi_116_116 l2 ?_
                    refine rs_pure wi_116_117 rfl ?_
                    refine rs_topi (v := 100) (by decide) ?_
                    refine rs_pure wi_116_119 rfl ?_
                    refine rs_pure wi_116_120 rfl ?_
                    refine rs_ild wi_116_121 l5 ?_
                    refine rs_pure wi_116_123 rfl ?_
                    obtain ⟨g27, h⟩ := wp_gd h
                    refine dq_lald wi_116_124 t_183 g27 ?_
                    refine rs_V wi_116_125 wc_116_393 rfl (dq_isa tf_174_0 wa_15_358) (Nat.le_trans (by decide) hF) (ml_le wm_358 (Nat.le_trans (by decide) hLo)) rfl (sp_358 hw (Nat.le_trans (by decide : 1 ≤ 4 - 1) (Nat.sub_le_sub_right hF 1)) (ml_sub wm_358 (Nat.le_trans (by decide : 21 ≤ 105 - 23) (Nat.sub_le_sub_right hLo 23))) (wp_bind h) (fun r28 h => rs_back0 ?_))
                    refine rs_pure wi_116_128 rfl ?_
                    refine rs_topi (v := 3) (by decide) ?_
                    exact rs_iret wi_116_129 wr_116 rfl (hQ (3, r28) h)
                  ·
                    have h := wp_neg h q
                    refine rs_pure wi_116_101 rfl ?_
                    refine rs_topi (v := (-2)) (by decide) ?_
                    exact rs_iret wi_116_103 wr_116 rfl (hQ ((-2), c9) h)
              ·
                have h := wp_neg h q
                exact hj67 _ h _
            refine rs_icge (tg := 63) wi_116_51 ⟨by decide, by decide⟩ (fun q => ?_) (fun q => ?_)
            ·
              have h := wp_pos h q
              refine rs_pure wi_116_63 rfl ?_
              refine rs_topi (v := 1) (by decide) ?_
              exact hj64 _ h _ l0 l2 l3 l4
            ·
              have h := wp_neg h q
              refine rs_aldn wi_116_54 l0 ?_
              refine dq_gr wi_116_55 wf_116_122 tf_174_26 ?_
              refine rs_ildn wi_116_58 l2 ?_
              obtain ⟨g29, h⟩ := wp_gd h
              refine dq_iald wi_116_59 t_190 g29 ?_
              refine rs_goto (tg := 64) wi_116_60 ⟨by decide, by decide⟩ ?_
              exact hj64 _ h _ l0 l2 l3 l4
    ·
      have h := wp_pos h q
      exact hj21 _ h _
theorem wc_117_459 : rx_ct (rt_P sc fm) 117 459 = some (0, 372, 1) := (by decide +kernel : rt_ct 117 459 = some (0, 372, 1))
theorem wc_117_462 : rx_ct (rt_P sc fm) 117 462 = some (0, 373, 1) := (by decide +kernel : rt_ct 117 462 = some (0, 373, 1))
theorem wc_117_543 : rx_ct (rt_P sc fm) 117 543 = some (0, 392, 2) := (by decide +kernel : rt_ct 117 543 = some (0, 392, 2))
theorem wc_117_652 : rx_ct (rt_P sc fm) 117 652 = some (0, 109, 1) := (by decide +kernel : rt_ct 117 652 = some (0, 109, 1))
theorem wc_117_667 : rx_ct (rt_P sc fm) 117 667 = some (0, 425, 2) := (by decide +kernel : rt_ct 117 667 = some (0, 425, 2))
theorem wf_117_218 : rx_ft (rt_P sc fm) 117 218 = some (15, 60) := (by decide +kernel : rt_ft 117 218 = some (15, 60))
theorem wf_117_221 : rx_ft (rt_P sc fm) 117 221 = some (15, 61) := (by decide +kernel : rt_ft 117 221 = some (15, 61))
theorem wf_117_224 : rx_ft (rt_P sc fm) 117 224 = some (15, 62) := (by decide +kernel : rt_ft 117 224 = some (15, 62))
theorem wf_117_227 : rx_ft (rt_P sc fm) 117 227 = some (15, 63) := (by decide +kernel : rt_ft 117 227 = some (15, 63))
theorem wi_117_0 : ri (rt_P sc fm) 117 0 (.aload_n 0) (1) := ri_of (by decide +kernel) rfl
theorem wi_117_1 : ri (rt_P sc fm) 117 1 (.iconst 0) (2) := ri_of (by decide +kernel) rfl
theorem wi_117_10 : ri (rt_P sc fm) 117 10 (.ifCond .eq 17) (13) := ri_of (by decide +kernel) rfl
theorem wi_117_100 : ri (rt_P sc fm) 117 100 (.laload) (101) := ri_of (by decide +kernel) rfl
theorem wi_117_101 : ri (rt_P sc fm) 117 101 (.invokevirtual 462) (104) := ri_of (by decide +kernel) rfl
theorem wi_117_104 : ri (rt_P sc fm) 117 104 (.ireturn) (105) := ri_of (by decide +kernel) rfl
theorem wi_117_105 : ri (rt_P sc fm) 117 105 (.aload_n 0) (106) := ri_of (by decide +kernel) rfl
theorem wi_117_106 : ri (rt_P sc fm) 117 106 (.iload_n 1) (107) := ri_of (by decide +kernel) rfl
theorem wi_117_107 : ri (rt_P sc fm) 117 107 (.iload_n 2) (108) := ri_of (by decide +kernel) rfl
theorem wi_117_108 : ri (rt_P sc fm) 117 108 (.invokevirtual 667) (111) := ri_of (by decide +kernel) rfl
theorem wi_117_111 : ri (rt_P sc fm) 117 111 (.ifCond .eq 7) (114) := ri_of (by decide +kernel) rfl
theorem wi_117_114 : ri (rt_P sc fm) 117 114 (.iconst 1) (115) := ri_of (by decide +kernel) rfl
theorem wi_117_115 : ri (rt_P sc fm) 117 115 (.goto 4) (118) := ri_of (by decide +kernel) rfl
theorem wi_117_118 : ri (rt_P sc fm) 117 118 (.iconst 0) (119) := ri_of (by decide +kernel) rfl
theorem wi_117_119 : ri (rt_P sc fm) 117 119 (.ireturn) (120) := ri_of (by decide +kernel) rfl
theorem wi_117_120 : ri (rt_P sc fm) 117 120 (.aload_n 0) (121) := ri_of (by decide +kernel) rfl
theorem wi_117_121 : ri (rt_P sc fm) 117 121 (.getfield 224) (124) := ri_of (by decide +kernel) rfl
theorem wi_117_124 : ri (rt_P sc fm) 117 124 (.iload 4) (126) := ri_of (by decide +kernel) rfl
theorem wi_117_126 : ri (rt_P sc fm) 117 126 (.baload) (127) := ri_of (by decide +kernel) rfl
theorem wi_117_127 : ri (rt_P sc fm) 117 127 (.ifCond .eq 7) (130) := ri_of (by decide +kernel) rfl
theorem wi_117_13 : ri (rt_P sc fm) 117 13 (.iload_n 2) (14) := ri_of (by decide +kernel) rfl
theorem wi_117_130 : ri (rt_P sc fm) 117 130 (.iconst 1) (131) := ri_of (by decide +kernel) rfl
theorem wi_117_131 : ri (rt_P sc fm) 117 131 (.goto 4) (134) := ri_of (by decide +kernel) rfl
theorem wi_117_134 : ri (rt_P sc fm) 117 134 (.iconst 0) (135) := ri_of (by decide +kernel) rfl
theorem wi_117_135 : ri (rt_P sc fm) 117 135 (.ireturn) (136) := ri_of (by decide +kernel) rfl
theorem wi_117_136 : ri (rt_P sc fm) 117 136 (.aload_n 0) (137) := ri_of (by decide +kernel) rfl
theorem wi_117_137 : ri (rt_P sc fm) 117 137 (.getfield 227) (140) := ri_of (by decide +kernel) rfl
theorem wi_117_14 : ri (rt_P sc fm) 117 14 (.ifCond .lt 13) (17) := ri_of (by decide +kernel) rfl
theorem wi_117_140 : ri (rt_P sc fm) 117 140 (.iload 4) (142) := ri_of (by decide +kernel) rfl
theorem wi_117_142 : ri (rt_P sc fm) 117 142 (.iaload) (143) := ri_of (by decide +kernel) rfl
theorem wi_117_143 : ri (rt_P sc fm) 117 143 (.ireturn) (144) := ri_of (by decide +kernel) rfl
theorem wi_117_144 : ri (rt_P sc fm) 117 144 (.iconst (-1)) (145) := ri_of (by decide +kernel) rfl
theorem wi_117_145 : ri (rt_P sc fm) 117 145 (.ireturn) (146) := ri_of (by decide +kernel) rfl
theorem wi_117_17 : ri (rt_P sc fm) 117 17 (.iload_n 2) (18) := ri_of (by decide +kernel) rfl
theorem wi_117_18 : ri (rt_P sc fm) 117 18 (.aload_n 0) (19) := ri_of (by decide +kernel) rfl
theorem wi_117_19 : ri (rt_P sc fm) 117 19 (.getfield 218) (22) := ri_of (by decide +kernel) rfl
theorem wi_117_2 : ri (rt_P sc fm) 117 2 (.putfield 356) (5) := ri_of (by decide +kernel) rfl
theorem wi_117_22 : ri (rt_P sc fm) 117 22 (.iload_n 1) (23) := ri_of (by decide +kernel) rfl
theorem wi_117_23 : ri (rt_P sc fm) 117 23 (.iaload) (24) := ri_of (by decide +kernel) rfl
theorem wi_117_24 : ri (rt_P sc fm) 117 24 (.if_icmp .lt 5) (27) := ri_of (by decide +kernel) rfl
theorem wi_117_27 : ri (rt_P sc fm) 117 27 (.iconst (-1)) (28) := ri_of (by decide +kernel) rfl
theorem wi_117_28 : ri (rt_P sc fm) 117 28 (.ireturn) (29) := ri_of (by decide +kernel) rfl
theorem wi_117_29 : ri (rt_P sc fm) 117 29 (.aload_n 0) (30) := ri_of (by decide +kernel) rfl
theorem wi_117_30 : ri (rt_P sc fm) 117 30 (.iload_n 1) (31) := ri_of (by decide +kernel) rfl
theorem wi_117_31 : ri (rt_P sc fm) 117 31 (.iload_n 2) (32) := ri_of (by decide +kernel) rfl
theorem wi_117_32 : ri (rt_P sc fm) 117 32 (.invokevirtual 543) (35) := ri_of (by decide +kernel) rfl
theorem wi_117_35 : ri (rt_P sc fm) 117 35 (.istore 4) (37) := ri_of (by decide +kernel) rfl
theorem wi_117_37 : ri (rt_P sc fm) 117 37 (.aload_n 0) (38) := ri_of (by decide +kernel) rfl
theorem wi_117_38 : ri (rt_P sc fm) 117 38 (.aload_n 0) (39) := ri_of (by decide +kernel) rfl
theorem wi_117_39 : ri (rt_P sc fm) 117 39 (.getfield 221) (42) := ri_of (by decide +kernel) rfl
theorem wi_117_42 : ri (rt_P sc fm) 117 42 (.iload 4) (44) := ri_of (by decide +kernel) rfl
theorem wi_117_44 : ri (rt_P sc fm) 117 44 (.laload) (45) := ri_of (by decide +kernel) rfl
theorem wi_117_45 : ri (rt_P sc fm) 117 45 (.invokevirtual 459) (48) := ri_of (by decide +kernel) rfl
theorem wi_117_48 : ri (rt_P sc fm) 117 48 (.istore 5) (50) := ri_of (by decide +kernel) rfl
theorem wi_117_5 : ri (rt_P sc fm) 117 5 (.aload_n 0) (6) := ri_of (by decide +kernel) rfl
theorem wi_117_50 : ri (rt_P sc fm) 117 50 (.iload_n 3) (51) := ri_of (by decide +kernel) rfl
theorem wi_117_51 : ri (rt_P sc fm) 117 51 (.tableswitch 93 0 3 #[29, 54, 69, 85]) (51 + rx_len (.tableswitch 93 0 3 #[29, 54, 69, 85])) := ri_of (by decide +kernel) rfl
theorem wi_117_6 : ri (rt_P sc fm) 117 6 (.iload_n 1) (7) := ri_of (by decide +kernel) rfl
theorem wi_117_7 : ri (rt_P sc fm) 117 7 (.invokevirtual 652) (10) := ri_of (by decide +kernel) rfl
theorem wi_117_80 : ri (rt_P sc fm) 117 80 (.iload 5) (82) := ri_of (by decide +kernel) rfl
theorem wi_117_82 : ri (rt_P sc fm) 117 82 (.ifCond .lt 11) (85) := ri_of (by decide +kernel) rfl
theorem wi_117_85 : ri (rt_P sc fm) 117 85 (.bipush 100) (87) := ri_of (by decide +kernel) rfl
theorem wi_117_87 : ri (rt_P sc fm) 117 87 (.iload 5) (89) := ri_of (by decide +kernel) rfl
theorem wi_117_89 : ri (rt_P sc fm) 117 89 (.iadd) (90) := ri_of (by decide +kernel) rfl
theorem wi_117_90 : ri (rt_P sc fm) 117 90 (.goto 14) (93) := ri_of (by decide +kernel) rfl
theorem wi_117_93 : ri (rt_P sc fm) 117 93 (.aload_n 0) (94) := ri_of (by decide +kernel) rfl
theorem wi_117_94 : ri (rt_P sc fm) 117 94 (.aload_n 0) (95) := ri_of (by decide +kernel) rfl
theorem wi_117_95 : ri (rt_P sc fm) 117 95 (.getfield 221) (98) := ri_of (by decide +kernel) rfl
theorem wi_117_98 : ri (rt_P sc fm) 117 98 (.iload 4) (100) := ri_of (by decide +kernel) rfl
theorem wp_117_356 : rx_pt (rt_P sc fm) 117 356 = some (15, 0, .int) := (by decide +kernel : rt_pt 117 356 = some (15, 0, .int))
theorem wr_117 : rx_rt (rt_P sc fm) 117 = (some FieldType.int) := (by decide +kernel : rt_rt 117 = (some FieldType.int))
/-- MarkHouseModel.mark(III)I -/
def d_117 (n : Nat) (a1 : Int32) (a2 : Int32) (a3 : Int32) (c : cS) : Option (Int32 × cS) :=
  lt (pI c 174 0 0) (fun c1 =>
  Option.bind (d_109 n a1 c1) (fun v3 =>
  jn (fun p4 : Unit =>
    some ((-1), c1))
  (fun j27 =>
  if v3 = 0 then
    j27 ()
  else
    if a2 < 0 then
      j27 ()
    else
      if ib a1 1219 then
      if a2 < (c1.1 222 (ix a1)) then
        Option.bind (d_392 n a1 a2) (fun v6 =>
        if ib v6 24380 then
        Option.bind (d_372 n (c1.2 223 (ix v6)) c1) (fun v9 =>
        if a3 = 0 then
          jn (fun p12 : Int32 =>
            some (p12, c1))
          (fun j104 =>
          if v9 < 0 then
            if ib v6 24380 then
            Option.bind (d_373 n (c1.2 223 (ix v6)) c1) (fun v14 =>
            j104 v14)
            else none
          else
            j104 (100 + v9))
        else
        if a3 = 1 then
          Option.bind (d_425 n a1 a2 c1) (fun v16 =>
          jn (fun p17 : Int32 =>
            some (p17, c1))
          (fun j119 =>
          if v16 = 0 then
            j119 0
          else
            j119 1))
        else
        if a3 = 2 then
          if ib v6 24380 then
          jn (fun p20 : Int32 =>
            some (p20, c1))
          (fun j135 =>
          if (c1.1 224 (ix v6)) = 0 then
            j135 0
          else
            j135 1)
          else none
        else
        if a3 = 3 then
          if ib v6 24380 then
          some ((c1.1 225 (ix v6)), c1)
          else none
        else
        some ((-1), c1))
        else none)
      else
        j27 ()
      else none)))
set_option maxRecDepth 100000 in
set_option maxHeartbeats 4000000 in
theorem sp_117 {F Lo n : Nat} {a1 : Int32} {a2 : Int32} {a3 : Int32} {c y : cS} {w : cW} {K : Int32 × cS → Prop} {Q : ((Option Value) ⊕ String) → List va_E → Prop} (hw : rOK fm w) (hF : 2 ≤ F) (hLo : 52 ≤ Lo)  (h : wp (d_117 n a1 a2 a3 c) K) (hQ : ∀ r, K r → Q (.inl (some (.int r.1))) (hq false r.2 y w)) : rs (rt_P sc fm) 117 F Lo 0 [(0, .ref 174), (1, .int a1), (2, .int a2), (3, .int a3)] [] (hq false c y w) Q := by
  unfold d_117 at h
  obtain ⟨lv, elv⟩ : ∃ lv : rx_L, lv = [(0, .ref 174), (1, .int a1), (2, .int a2), (3, .int a3)] := ⟨_, rfl⟩
  rw [← elv]
  have l0 : rx_ld lv 0 = some (.ref 174) := by rw [elv]; rfl
  have l1 : rx_ld lv 1 = some (.int a1) := by rw [elv]; rfl
  have l2 : rx_ld lv 2 = some (.int a2) := by rw [elv]; rfl
  have l3 : rx_ld lv 3 = some (.int a3) := by rw [elv]; rfl
  refine rs_aldn wi_117_0 l0 ?_
  refine rs_pure wi_117_1 rfl ?_
  refine rs_topi (v := 0) (by decide) ?_
  obtain ⟨c1, e2, h⟩ := wp_lt h
  refine dq_pi wi_117_2 wp_117_356 tf_174_0 rfl rfl e2 ?_
  refine rs_aldn wi_117_5 l0 ?_
  refine rs_ildn wi_117_6 l1 ?_
  refine rs_V wi_117_7 wc_117_652 rfl (dq_isa tf_174_0 wa_15_109) (Nat.le_trans (by decide) hF) (ml_le wm_109 (Nat.le_trans (by decide) hLo)) rfl (sp_109 hw (Nat.le_trans (by decide : 0 ≤ 2 - 1) (Nat.sub_le_sub_right hF 1)) (ml_sub wm_109 (Nat.le_trans (by decide : 0 ≤ 52 - 24) (Nat.sub_le_sub_right hLo 24))) (wp_bind h) (fun v3 h => rs_back1 ?_))
  refine wp_jn (B := fun p4 : Unit => ∀ lv, rs (rt_P sc fm) 117 F Lo 27 lv [] (hq false c1 y w) Q) h (fun p4 h lv => ?_) (fun j27 hj27 h => ?_)
  ·
    refine rs_pure wi_117_27 rfl ?_
    refine rs_topi (v := (-1)) (by decide) ?_
    exact rs_iret wi_117_28 wr_117 rfl (hQ ((-1), c1) h)
  refine rs_ifeq (tg := 27) wi_117_10 ⟨by decide, by decide⟩ (fun q => ?_) (fun q => ?_)
  ·
    have h := wp_pos h q
    exact hj27 _ h _
  ·
    have h := wp_neg h q
    refine rs_ildn wi_117_13 l2 ?_
    refine rs_iflt (tg := 27) wi_117_14 ⟨by decide, by decide⟩ (fun q => ?_) (fun q => ?_)
    ·
      have h := wp_pos h q
      exact hj27 _ h _
    ·
      have h := wp_neg h q
      refine rs_ildn wi_117_17 l2 ?_
      refine rs_aldn wi_117_18 l0 ?_
      refine dq_gr wi_117_19 wf_117_218 tf_174_60 ?_
      refine rs_ildn wi_117_22 l1 ?_
      obtain ⟨g5, h⟩ := wp_gd h
      refine dq_iald wi_117_23 t_222 g5 ?_
      refine rs_iclt (tg := 29) wi_117_24 ⟨by decide, by decide⟩ (fun q => ?_) (fun q => ?_)
      ·
        have h := wp_pos h q
        refine rs_aldn wi_117_29 l0 ?_
        refine rs_ildn wi_117_30 l1 ?_
        refine rs_ildn wi_117_31 l2 ?_
        refine rs_V wi_117_32 wc_117_543 rfl (dq_isa tf_174_0 wa_15_392) (Nat.le_trans (by decide) hF) (ml_le wm_392 (Nat.le_trans (by decide) hLo)) rfl (sp_392 (Nat.le_trans (by decide : 0 ≤ 2 - 1) (Nat.sub_le_sub_right hF 1)) (ml_sub wm_392 (Nat.le_trans (by decide : 0 ≤ 52 - 22) (Nat.sub_le_sub_right hLo 22))) (wp_bind h) (fun v6 h => rs_back1 ?_))
        refine dl_ist wi_117_35 rfl (fun lv l4 t7 => ?_)
        have l0 := t7 _ _ (by decide) (Or.inl rfl) l0
        have l1 := t7 _ _ (by decide) (Or.inl rfl) l1
        have l2 := t7 _ _ (by decide) (Or.inl rfl) l2
        have l3 := t7 _ _ (by decide) (Or.inl rfl) l3
        refine rs_aldn wi_117_37 l0 ?_
        refine rs_aldn wi_117_38 l0 ?_
        refine dq_gr wi_117_39 wf_117_221 tf_174_61 ?_
        refine rs_ild wi_117_42 l4 ?_
        obtain ⟨g8, h⟩ := wp_gd h
        refine dq_lald wi_117_44 t_223 g8 ?_
        refine rs_V wi_117_45 wc_117_459 rfl (dq_isa tf_174_0 wa_15_372) (Nat.le_trans (by decide) hF) (ml_le wm_372 (Nat.le_trans (by decide) hLo)) rfl (sp_372 hw (Nat.le_trans (by decide : 0 ≤ 2 - 1) (Nat.sub_le_sub_right hF 1)) (ml_sub wm_372 (Nat.le_trans (by decide : 0 ≤ 52 - 23) (Nat.sub_le_sub_right hLo 23))) (wp_bind h) (fun v9 h => rs_back1 ?_))
        refine dl_ist wi_117_48 rfl (fun lv l5 t10 => ?_)
        have l0 := t10 _ _ (by decide) (Or.inl rfl) l0
        have l1 := t10 _ _ (by decide) (Or.inl rfl) l1
        have l2 := t10 _ _ (by decide) (Or.inl rfl) l2
        have l3 := t10 _ _ (by decide) (Or.inl rfl) l3
        have l4 := t10 _ _ (by decide) (Or.inl rfl) l4
        refine rs_ildn wi_117_50 l3 ?_
        by_cases q11 : a3 = 0
        ·
          have h := wp_pos h q11
          refine rs_tsk (tg := 80) (off := 29) (v := 0) wi_117_51 q11 (by decide) (by decide) ⟨by decide, by decide⟩ ?_
          refine rs_ild wi_117_80 l5 ?_
          refine wp_jn (B := fun p12 : Int32 => ∀ lv, rs (rt_P sc fm) 117 F Lo 104 lv [.int p12] (hq false c1 y w) Q) h (fun p12 h lv => ?_) (fun j104 hj104 h => ?_)
          ·
            exact rs_iret wi_117_104 wr_117 rfl (hQ (p12, c1) h)
          refine rs_iflt (tg := 93) wi_117_82 ⟨by decide, by decide⟩ (fun q => ?_) (fun q => ?_)
          ·
            have h := wp_pos h q
            refine rs_aldn wi_117_93 l0 ?_
            refine rs_aldn wi_117_94 l0 ?_
            refine dq_gr wi_117_95 wf_117_221 tf_174_61 ?_
            refine rs_ild wi_117_98 l4 ?_
            obtain ⟨g13, h⟩ := wp_gd h
            refine dq_lald wi_117_100 t_223 g13 ?_
            refine rs_V wi_117_101 wc_117_462 rfl (dq_isa tf_174_0 wa_15_373) (Nat.le_trans (by decide) hF) (ml_le wm_373 (Nat.le_trans (by decide) hLo)) rfl (sp_373 hw (Nat.le_trans (by decide : 0 ≤ 2 - 1) (Nat.sub_le_sub_right hF 1)) (ml_sub wm_373 (Nat.le_trans (by decide : 0 ≤ 52 - 23) (Nat.sub_le_sub_right hLo 23))) (wp_bind h) (fun v14 h => rs_back1 ?_))
            exact hj104 _ h _
          ·
            have h := wp_neg h q
            refine rs_pure wi_117_85 rfl ?_
            refine rs_topi (v := 100) (by decide) ?_
            refine rs_ild wi_117_87 l5 ?_
            refine rs_pure wi_117_89 rfl ?_
            refine rs_goto (tg := 104) wi_117_90 ⟨by decide, by decide⟩ ?_
            exact hj104 _ h _
        have h := wp_neg h q11
        by_cases q15 : a3 = 1
        ·
          have h := wp_pos h q15
          refine rs_tsk (tg := 105) (off := 54) (v := 1) wi_117_51 q15 (by decide) (by decide) ⟨by decide, by decide⟩ ?_
          refine rs_aldn wi_117_105 l0 ?_
          refine rs_ildn wi_117_106 l1 ?_
          refine rs_ildn wi_117_107 l2 ?_
          refine rs_V wi_117_108 wc_117_667 rfl (dq_isa tf_174_0 wa_15_425) (Nat.le_trans (by decide) hF) (ml_le wm_425 (Nat.le_trans (by decide) hLo)) rfl (sp_425 hw (Nat.le_trans (by decide : 1 ≤ 2 - 1) (Nat.sub_le_sub_right hF 1)) (ml_sub wm_425 (Nat.le_trans (by decide : 23 ≤ 52 - 29) (Nat.sub_le_sub_right hLo 29))) (wp_bind h) (fun v16 h => rs_back1 ?_))
          refine wp_jn (B := fun p17 : Int32 => ∀ lv, rs (rt_P sc fm) 117 F Lo 119 lv [.int p17] (hq false c1 y w) Q) h (fun p17 h lv => ?_) (fun j119 hj119 h => ?_)
          ·
            exact rs_iret wi_117_119 wr_117 rfl (hQ (p17, c1) h)
          refine rs_ifeq (tg := 118) wi_117_111 ⟨by decide, by decide⟩ (fun q => ?_) (fun q => ?_)
          ·
            have h := wp_pos h q
            refine rs_pure wi_117_118 rfl ?_
            refine rs_topi (v := 0) (by decide) ?_
            exact hj119 _ h _
          ·
            have h := wp_neg h q
            refine rs_pure wi_117_114 rfl ?_
            refine rs_topi (v := 1) (by decide) ?_
            refine rs_goto (tg := 119) wi_117_115 ⟨by decide, by decide⟩ ?_
            exact hj119 _ h _
        have h := wp_neg h q15
        by_cases q18 : a3 = 2
        ·
          have h := wp_pos h q18
          refine rs_tsk (tg := 120) (off := 69) (v := 2) wi_117_51 q18 (by decide) (by decide) ⟨by decide, by decide⟩ ?_
          refine rs_aldn wi_117_120 l0 ?_
          refine dq_gr wi_117_121 wf_117_224 tf_174_62 ?_
          refine rs_ild wi_117_124 l4 ?_
          obtain ⟨g19, h⟩ := wp_gd h
          refine dq_zald wi_117_126 t_224 g19 ?_
          refine wp_jn (B := fun p20 : Int32 => ∀ lv, rs (rt_P sc fm) 117 F Lo 135 lv [.int p20] (hq false c1 y w) Q) h (fun p20 h lv => ?_) (fun j135 hj135 h => ?_)
          ·
            exact rs_iret wi_117_135 wr_117 rfl (hQ (p20, c1) h)
          refine rs_ifeq (tg := 134) wi_117_127 ⟨by decide, by decide⟩ (fun q => ?_) (fun q => ?_)
          ·
            have h := wp_pos h q
            refine rs_pure wi_117_134 rfl ?_
            refine rs_topi (v := 0) (by decide) ?_
            exact hj135 _ h _
          ·
            have h := wp_neg h q
            refine rs_pure wi_117_130 rfl ?_
            refine rs_topi (v := 1) (by decide) ?_
            refine rs_goto (tg := 135) wi_117_131 ⟨by decide, by decide⟩ ?_
            exact hj135 _ h _
        have h := wp_neg h q18
        by_cases q21 : a3 = 3
        ·
          have h := wp_pos h q21
          refine rs_tsk (tg := 136) (off := 85) (v := 3) wi_117_51 q21 (by decide) (by decide) ⟨by decide, by decide⟩ ?_
          refine rs_aldn wi_117_136 l0 ?_
          refine dq_gr wi_117_137 wf_117_227 tf_174_63 ?_
          refine rs_ild wi_117_140 l4 ?_
          obtain ⟨g22, h⟩ := wp_gd h
          refine dq_iald wi_117_142 t_225 g22 ?_
          exact rs_iret wi_117_143 wr_117 rfl (hQ ((c1.1 225 (ix v6)), c1) h)
        have h := wp_neg h q21
        refine rs_tsd (tg := 144) wi_117_51 (rz_sw fun k k1 k2 => by
          have kk : k = 0 ∨ k = 1 ∨ k = 2 ∨ k = 3 := by omega
          rcases kk with rfl | rfl | rfl | rfl
          · exact q11
          · exact q15
          · exact q18
          · exact q21
          ) ⟨by decide, by decide⟩ ?_
        refine rs_pure wi_117_144 rfl ?_
        refine rs_topi (v := (-1)) (by decide) ?_
        exact rs_iret wi_117_145 wr_117 rfl (hQ ((-1), c1) h)
      ·
        have h := wp_neg h q
        exact hj27 _ h _
theorem wa_15_108 : rz_cn 15 (rx_yn (rt_P sc fm) 108).cls = true := (by decide +kernel : rz_cn 15 (rt_yn 108).cls = true)
theorem wa_15_111 : rz_cn 15 (rx_yn (rt_P sc fm) 111).cls = true := (by decide +kernel : rz_cn 15 (rt_yn 111).cls = true)
theorem wc_118_652 : rx_ct (rt_P sc fm) 118 652 = some (0, 109, 1) := (by decide +kernel : rt_ct 118 652 = some (0, 109, 1))
theorem wc_118_658 : rx_ct (rt_P sc fm) 118 658 = some (1, 421, 1) := (by decide +kernel : rt_ct 118 658 = some (1, 421, 1))
theorem wc_118_718 : rx_ct (rt_P sc fm) 118 718 = some (0, 108, 1) := (by decide +kernel : rt_ct 118 718 = some (0, 108, 1))
theorem wc_118_721 : rx_ct (rt_P sc fm) 118 721 = some (0, 111, 1) := (by decide +kernel : rt_ct 118 721 = some (0, 111, 1))
theorem wf_118_122 : rx_ft (rt_P sc fm) 118 122 = some (15, 26) := (by decide +kernel : rt_ft 118 122 = some (15, 26))
theorem wf_118_158 : rx_ft (rt_P sc fm) 118 158 = some (15, 40) := (by decide +kernel : rt_ft 118 158 = some (15, 40))
theorem wf_118_161 : rx_ft (rt_P sc fm) 118 161 = some (15, 41) := (by decide +kernel : rt_ft 118 161 = some (15, 41))
theorem wf_118_173 : rx_ft (rt_P sc fm) 118 173 = some (15, 45) := (by decide +kernel : rt_ft 118 173 = some (15, 45))
theorem wf_118_182 : rx_ft (rt_P sc fm) 118 182 = some (15, 48) := (by decide +kernel : rt_ft 118 182 = some (15, 48))
theorem wf_118_218 : rx_ft (rt_P sc fm) 118 218 = some (15, 60) := (by decide +kernel : rt_ft 118 218 = some (15, 60))
theorem wf_118_447 : rx_ft (rt_P sc fm) 118 447 = some (15, 15) := (by decide +kernel : rt_ft 118 447 = some (15, 15))
theorem wf_118_450 : rx_ft (rt_P sc fm) 118 450 = some (15, 24) := (by decide +kernel : rt_ft 118 450 = some (15, 24))
theorem wf_118_453 : rx_ft (rt_P sc fm) 118 453 = some (15, 34) := (by decide +kernel : rt_ft 118 453 = some (15, 34))
theorem wf_118_456 : rx_ft (rt_P sc fm) 118 456 = some (15, 37) := (by decide +kernel : rt_ft 118 456 = some (15, 37))
theorem wf_118_634 : rx_ft (rt_P sc fm) 118 634 = some (15, 14) := (by decide +kernel : rt_ft 118 634 = some (15, 14))
theorem wf_118_97 : rx_ft (rt_P sc fm) 118 97 = some (15, 17) := (by decide +kernel : rt_ft 118 97 = some (15, 17))
theorem wi_118_0 : ri (rt_P sc fm) 118 0 (.aload_n 0) (1) := ri_of (by decide +kernel) rfl
theorem wi_118_1 : ri (rt_P sc fm) 118 1 (.iconst 0) (2) := ri_of (by decide +kernel) rfl
theorem wi_118_101 : ri (rt_P sc fm) 118 101 (.if_icmp .ge 12) (104) := ri_of (by decide +kernel) rfl
theorem wi_118_104 : ri (rt_P sc fm) 118 104 (.aload_n 0) (105) := ri_of (by decide +kernel) rfl
theorem wi_118_105 : ri (rt_P sc fm) 118 105 (.getfield 97) (108) := ri_of (by decide +kernel) rfl
theorem wi_118_108 : ri (rt_P sc fm) 118 108 (.iload_n 2) (109) := ri_of (by decide +kernel) rfl
theorem wi_118_109 : ri (rt_P sc fm) 118 109 (.iaload) (110) := ri_of (by decide +kernel) rfl
theorem wi_118_110 : ri (rt_P sc fm) 118 110 (.goto 4) (113) := ri_of (by decide +kernel) rfl
theorem wi_118_113 : ri (rt_P sc fm) 118 113 (.iconst (-1)) (114) := ri_of (by decide +kernel) rfl
theorem wi_118_114 : ri (rt_P sc fm) 118 114 (.ireturn) (115) := ri_of (by decide +kernel) rfl
theorem wi_118_115 : ri (rt_P sc fm) 118 115 (.iload_n 2) (116) := ri_of (by decide +kernel) rfl
theorem wi_118_116 : ri (rt_P sc fm) 118 116 (.ifCond .lt 20) (119) := ri_of (by decide +kernel) rfl
theorem wi_118_119 : ri (rt_P sc fm) 118 119 (.iload_n 2) (120) := ri_of (by decide +kernel) rfl
theorem wi_118_12 : ri (rt_P sc fm) 118 12 (.iconst (-1)) (13) := ri_of (by decide +kernel) rfl
theorem wi_118_120 : ri (rt_P sc fm) 118 120 (.aload_n 0) (121) := ri_of (by decide +kernel) rfl
theorem wi_118_121 : ri (rt_P sc fm) 118 121 (.getfield 450) (124) := ri_of (by decide +kernel) rfl
theorem wi_118_124 : ri (rt_P sc fm) 118 124 (.if_icmp .ge 12) (127) := ri_of (by decide +kernel) rfl
theorem wi_118_127 : ri (rt_P sc fm) 118 127 (.aload_n 0) (128) := ri_of (by decide +kernel) rfl
theorem wi_118_128 : ri (rt_P sc fm) 118 128 (.getfield 122) (131) := ri_of (by decide +kernel) rfl
theorem wi_118_13 : ri (rt_P sc fm) 118 13 (.ireturn) (14) := ri_of (by decide +kernel) rfl
theorem wi_118_131 : ri (rt_P sc fm) 118 131 (.iload_n 2) (132) := ri_of (by decide +kernel) rfl
theorem wi_118_132 : ri (rt_P sc fm) 118 132 (.iaload) (133) := ri_of (by decide +kernel) rfl
theorem wi_118_133 : ri (rt_P sc fm) 118 133 (.goto 4) (136) := ri_of (by decide +kernel) rfl
theorem wi_118_136 : ri (rt_P sc fm) 118 136 (.iconst (-1)) (137) := ri_of (by decide +kernel) rfl
theorem wi_118_137 : ri (rt_P sc fm) 118 137 (.ireturn) (138) := ri_of (by decide +kernel) rfl
theorem wi_118_138 : ri (rt_P sc fm) 118 138 (.aload_n 0) (139) := ri_of (by decide +kernel) rfl
theorem wi_118_139 : ri (rt_P sc fm) 118 139 (.iload_n 2) (140) := ri_of (by decide +kernel) rfl
theorem wi_118_14 : ri (rt_P sc fm) 118 14 (.iload_n 1) (15) := ri_of (by decide +kernel) rfl
theorem wi_118_140 : ri (rt_P sc fm) 118 140 (.invokevirtual 718) (143) := ri_of (by decide +kernel) rfl
theorem wi_118_143 : ri (rt_P sc fm) 118 143 (.ifCond .eq 12) (146) := ri_of (by decide +kernel) rfl
theorem wi_118_146 : ri (rt_P sc fm) 118 146 (.aload_n 0) (147) := ri_of (by decide +kernel) rfl
theorem wi_118_147 : ri (rt_P sc fm) 118 147 (.getfield 158) (150) := ri_of (by decide +kernel) rfl
theorem wi_118_15 : ri (rt_P sc fm) 118 15 (.tableswitch 224 0 10 #[57, 62, 67, 72, 77, 100, 123, 142, 161, 183, 205]) (15 + rx_len (.tableswitch 224 0 10 #[57, 62, 67, 72, 77, 100, 123, 142, 161, 183, 205])) := ri_of (by decide +kernel) rfl
theorem wi_118_150 : ri (rt_P sc fm) 118 150 (.iload_n 2) (151) := ri_of (by decide +kernel) rfl
theorem wi_118_151 : ri (rt_P sc fm) 118 151 (.iaload) (152) := ri_of (by decide +kernel) rfl
theorem wi_118_152 : ri (rt_P sc fm) 118 152 (.goto 4) (155) := ri_of (by decide +kernel) rfl
theorem wi_118_155 : ri (rt_P sc fm) 118 155 (.iconst (-1)) (156) := ri_of (by decide +kernel) rfl
theorem wi_118_156 : ri (rt_P sc fm) 118 156 (.ireturn) (157) := ri_of (by decide +kernel) rfl
theorem wi_118_157 : ri (rt_P sc fm) 118 157 (.aload_n 0) (158) := ri_of (by decide +kernel) rfl
theorem wi_118_158 : ri (rt_P sc fm) 118 158 (.iload_n 2) (159) := ri_of (by decide +kernel) rfl
theorem wi_118_159 : ri (rt_P sc fm) 118 159 (.invokevirtual 718) (162) := ri_of (by decide +kernel) rfl
theorem wi_118_162 : ri (rt_P sc fm) 118 162 (.ifCond .eq 12) (165) := ri_of (by decide +kernel) rfl
theorem wi_118_165 : ri (rt_P sc fm) 118 165 (.aload_n 0) (166) := ri_of (by decide +kernel) rfl
theorem wi_118_166 : ri (rt_P sc fm) 118 166 (.getfield 161) (169) := ri_of (by decide +kernel) rfl
theorem wi_118_169 : ri (rt_P sc fm) 118 169 (.iload_n 2) (170) := ri_of (by decide +kernel) rfl
theorem wi_118_170 : ri (rt_P sc fm) 118 170 (.iaload) (171) := ri_of (by decide +kernel) rfl
theorem wi_118_171 : ri (rt_P sc fm) 118 171 (.goto 4) (174) := ri_of (by decide +kernel) rfl
theorem wi_118_174 : ri (rt_P sc fm) 118 174 (.iconst (-1)) (175) := ri_of (by decide +kernel) rfl
theorem wi_118_175 : ri (rt_P sc fm) 118 175 (.ireturn) (176) := ri_of (by decide +kernel) rfl
theorem wi_118_176 : ri (rt_P sc fm) 118 176 (.aload_n 0) (177) := ri_of (by decide +kernel) rfl
theorem wi_118_177 : ri (rt_P sc fm) 118 177 (.iload_n 2) (178) := ri_of (by decide +kernel) rfl
theorem wi_118_178 : ri (rt_P sc fm) 118 178 (.invokevirtual 721) (181) := ri_of (by decide +kernel) rfl
theorem wi_118_181 : ri (rt_P sc fm) 118 181 (.ifCond .eq 15) (184) := ri_of (by decide +kernel) rfl
theorem wi_118_184 : ri (rt_P sc fm) 118 184 (.aload_n 0) (185) := ri_of (by decide +kernel) rfl
theorem wi_118_185 : ri (rt_P sc fm) 118 185 (.getfield 173) (188) := ri_of (by decide +kernel) rfl
theorem wi_118_188 : ri (rt_P sc fm) 118 188 (.iload_n 2) (189) := ri_of (by decide +kernel) rfl
theorem wi_118_189 : ri (rt_P sc fm) 118 189 (.invokestatic 658) (192) := ri_of (by decide +kernel) rfl
theorem wi_118_192 : ri (rt_P sc fm) 118 192 (.iaload) (193) := ri_of (by decide +kernel) rfl
theorem wi_118_193 : ri (rt_P sc fm) 118 193 (.goto 4) (196) := ri_of (by decide +kernel) rfl
theorem wi_118_196 : ri (rt_P sc fm) 118 196 (.iconst (-1)) (197) := ri_of (by decide +kernel) rfl
theorem wi_118_197 : ri (rt_P sc fm) 118 197 (.ireturn) (198) := ri_of (by decide +kernel) rfl
theorem wi_118_198 : ri (rt_P sc fm) 118 198 (.aload_n 0) (199) := ri_of (by decide +kernel) rfl
theorem wi_118_199 : ri (rt_P sc fm) 118 199 (.iload_n 2) (200) := ri_of (by decide +kernel) rfl
theorem wi_118_2 : ri (rt_P sc fm) 118 2 (.putfield 356) (5) := ri_of (by decide +kernel) rfl
theorem wi_118_200 : ri (rt_P sc fm) 118 200 (.invokevirtual 721) (203) := ri_of (by decide +kernel) rfl
theorem wi_118_203 : ri (rt_P sc fm) 118 203 (.ifCond .eq 15) (206) := ri_of (by decide +kernel) rfl
theorem wi_118_206 : ri (rt_P sc fm) 118 206 (.aload_n 0) (207) := ri_of (by decide +kernel) rfl
theorem wi_118_207 : ri (rt_P sc fm) 118 207 (.getfield 182) (210) := ri_of (by decide +kernel) rfl
theorem wi_118_210 : ri (rt_P sc fm) 118 210 (.iload_n 2) (211) := ri_of (by decide +kernel) rfl
theorem wi_118_211 : ri (rt_P sc fm) 118 211 (.invokestatic 658) (214) := ri_of (by decide +kernel) rfl
theorem wi_118_214 : ri (rt_P sc fm) 118 214 (.iaload) (215) := ri_of (by decide +kernel) rfl
theorem wi_118_215 : ri (rt_P sc fm) 118 215 (.goto 4) (218) := ri_of (by decide +kernel) rfl
theorem wi_118_218 : ri (rt_P sc fm) 118 218 (.iconst (-1)) (219) := ri_of (by decide +kernel) rfl
theorem wi_118_219 : ri (rt_P sc fm) 118 219 (.ireturn) (220) := ri_of (by decide +kernel) rfl
theorem wi_118_220 : ri (rt_P sc fm) 118 220 (.aload_n 0) (221) := ri_of (by decide +kernel) rfl
theorem wi_118_221 : ri (rt_P sc fm) 118 221 (.iload_n 2) (222) := ri_of (by decide +kernel) rfl
theorem wi_118_222 : ri (rt_P sc fm) 118 222 (.invokevirtual 652) (225) := ri_of (by decide +kernel) rfl
theorem wi_118_225 : ri (rt_P sc fm) 118 225 (.ifCond .eq 12) (228) := ri_of (by decide +kernel) rfl
theorem wi_118_228 : ri (rt_P sc fm) 118 228 (.aload_n 0) (229) := ri_of (by decide +kernel) rfl
theorem wi_118_229 : ri (rt_P sc fm) 118 229 (.getfield 218) (232) := ri_of (by decide +kernel) rfl
theorem wi_118_232 : ri (rt_P sc fm) 118 232 (.iload_n 2) (233) := ri_of (by decide +kernel) rfl
theorem wi_118_233 : ri (rt_P sc fm) 118 233 (.iaload) (234) := ri_of (by decide +kernel) rfl
theorem wi_118_234 : ri (rt_P sc fm) 118 234 (.goto 4) (237) := ri_of (by decide +kernel) rfl
theorem wi_118_237 : ri (rt_P sc fm) 118 237 (.iconst (-1)) (238) := ri_of (by decide +kernel) rfl
theorem wi_118_238 : ri (rt_P sc fm) 118 238 (.ireturn) (239) := ri_of (by decide +kernel) rfl
theorem wi_118_239 : ri (rt_P sc fm) 118 239 (.iconst (-1)) (240) := ri_of (by decide +kernel) rfl
theorem wi_118_240 : ri (rt_P sc fm) 118 240 (.ireturn) (241) := ri_of (by decide +kernel) rfl
theorem wi_118_5 : ri (rt_P sc fm) 118 5 (.aload_n 0) (6) := ri_of (by decide +kernel) rfl
theorem wi_118_6 : ri (rt_P sc fm) 118 6 (.getfield 634) (9) := ri_of (by decide +kernel) rfl
theorem wi_118_72 : ri (rt_P sc fm) 118 72 (.aload_n 0) (73) := ri_of (by decide +kernel) rfl
theorem wi_118_73 : ri (rt_P sc fm) 118 73 (.getfield 447) (76) := ri_of (by decide +kernel) rfl
theorem wi_118_76 : ri (rt_P sc fm) 118 76 (.ireturn) (77) := ri_of (by decide +kernel) rfl
theorem wi_118_77 : ri (rt_P sc fm) 118 77 (.aload_n 0) (78) := ri_of (by decide +kernel) rfl
theorem wi_118_78 : ri (rt_P sc fm) 118 78 (.getfield 450) (81) := ri_of (by decide +kernel) rfl
theorem wi_118_81 : ri (rt_P sc fm) 118 81 (.ireturn) (82) := ri_of (by decide +kernel) rfl
theorem wi_118_82 : ri (rt_P sc fm) 118 82 (.aload_n 0) (83) := ri_of (by decide +kernel) rfl
theorem wi_118_83 : ri (rt_P sc fm) 118 83 (.getfield 453) (86) := ri_of (by decide +kernel) rfl
theorem wi_118_86 : ri (rt_P sc fm) 118 86 (.ireturn) (87) := ri_of (by decide +kernel) rfl
theorem wi_118_87 : ri (rt_P sc fm) 118 87 (.aload_n 0) (88) := ri_of (by decide +kernel) rfl
theorem wi_118_88 : ri (rt_P sc fm) 118 88 (.getfield 456) (91) := ri_of (by decide +kernel) rfl
theorem wi_118_9 : ri (rt_P sc fm) 118 9 (.ifCond .ne 5) (12) := ri_of (by decide +kernel) rfl
theorem wi_118_91 : ri (rt_P sc fm) 118 91 (.ireturn) (92) := ri_of (by decide +kernel) rfl
theorem wi_118_92 : ri (rt_P sc fm) 118 92 (.iload_n 2) (93) := ri_of (by decide +kernel) rfl
theorem wi_118_93 : ri (rt_P sc fm) 118 93 (.ifCond .lt 20) (96) := ri_of (by decide +kernel) rfl
theorem wi_118_96 : ri (rt_P sc fm) 118 96 (.iload_n 2) (97) := ri_of (by decide +kernel) rfl
theorem wi_118_97 : ri (rt_P sc fm) 118 97 (.aload_n 0) (98) := ri_of (by decide +kernel) rfl
theorem wi_118_98 : ri (rt_P sc fm) 118 98 (.getfield 447) (101) := ri_of (by decide +kernel) rfl
theorem wm_108 : rx_ml (rt_P sc fm) 108 = 2 := (by decide +kernel : rt_ml 108 = 2)
theorem wm_111 : rx_ml (rt_P sc fm) 111 = 2 := (by decide +kernel : rt_ml 111 = 2)
theorem wp_118_356 : rx_pt (rt_P sc fm) 118 356 = some (15, 0, .int) := (by decide +kernel : rt_pt 118 356 = some (15, 0, .int))
theorem wr_118 : rx_rt (rt_P sc fm) 118 = (some FieldType.int) := (by decide +kernel : rt_rt 118 = (some FieldType.int))
/-- MarkHouseModel.size(II)I -/
def d_118 (n : Nat) (a1 : Int32) (a2 : Int32) (c : cS) : Option (Int32 × cS) :=
  lt (pI c 174 0 0) (fun c1 =>
  if (c1.1 174 14) = 0 then
    some ((-1), c1)
  else
    if a1 = 0 then
      some ((c1.1 174 15), c1)
    else
    if a1 = 1 then
      some ((c1.1 174 24), c1)
    else
    if a1 = 2 then
      some ((c1.1 174 34), c1)
    else
    if a1 = 3 then
      some ((c1.1 174 37), c1)
    else
    if a1 = 4 then
      jn (fun p8 : Int32 =>
        some (p8, c1))
      (fun j114 =>
      jn (fun p9 : Unit =>
        j114 (-1))
      (fun j113 =>
      if a2 < 0 then
        j113 ()
      else
        if (c1.1 174 15) ≤ a2 then
          j113 ()
        else
          if ib a2 4 then
          j114 (c1.1 182 (ix a2))
          else none))
    else
    if a1 = 5 then
      jn (fun p12 : Int32 =>
        some (p12, c1))
      (fun j137 =>
      jn (fun p13 : Unit =>
        j137 (-1))
      (fun j136 =>
      if a2 < 0 then
        j136 ()
      else
        if (c1.1 174 24) ≤ a2 then
          j136 ()
        else
          if ib a2 12 then
          j137 (c1.1 190 (ix a2))
          else none))
    else
    if a1 = 6 then
      Option.bind (d_108 n a2 c1) (fun v16 =>
      jn (fun p17 : Int32 =>
        some (p17, c1))
      (fun j156 =>
      if v16 = 0 then
        j156 (-1)
      else
        if ib a2 12 then
        j156 (c1.1 202 (ix a2))
        else none))
    else
    if a1 = 7 then
      Option.bind (d_108 n a2 c1) (fun v20 =>
      jn (fun p21 : Int32 =>
        some (p21, c1))
      (fun j175 =>
      if v20 = 0 then
        j175 (-1)
      else
        if ib a2 12 then
        j175 (c1.1 203 (ix a2))
        else none))
    else
    if a1 = 8 then
      Option.bind (d_111 n a2 c1) (fun v24 =>
      jn (fun p25 : Int32 =>
        some (p25, c1))
      (fun j197 =>
      if v24 = 0 then
        j197 (-1)
      else
        Option.bind (d_421 n a2) (fun v26 =>
        if ib v26 96 then
        j197 (c1.1 207 (ix v26))
        else none)))
    else
    if a1 = 9 then
      Option.bind (d_111 n a2 c1) (fun v29 =>
      jn (fun p30 : Int32 =>
        some (p30, c1))
      (fun j219 =>
      if v29 = 0 then
        j219 (-1)
      else
        Option.bind (d_421 n a2) (fun v31 =>
        if ib v31 96 then
        j219 (c1.1 210 (ix v31))
        else none)))
    else
    if a1 = 10 then
      Option.bind (d_109 n a2 c1) (fun v34 =>
      jn (fun p35 : Int32 =>
        some (p35, c1))
      (fun j238 =>
      if v34 = 0 then
        j238 (-1)
      else
        if ib a2 1219 then
        j238 (c1.1 222 (ix a2))
        else none))
    else
    some ((-1), c1))
set_option maxRecDepth 100000 in
set_option maxHeartbeats 4000000 in
theorem sp_118 {F Lo n : Nat} {a1 : Int32} {a2 : Int32} {c y : cS} {w : cW} {K : Int32 × cS → Prop} {Q : ((Option Value) ⊕ String) → List va_E → Prop} (hw : rOK fm w) (hF : 2 ≤ F) (hLo : 45 ≤ Lo)  (h : wp (d_118 n a1 a2 c) K) (hQ : ∀ r, K r → Q (.inl (some (.int r.1))) (hq false r.2 y w)) : rs (rt_P sc fm) 118 F Lo 0 [(0, .ref 174), (1, .int a1), (2, .int a2)] [] (hq false c y w) Q := by
  unfold d_118 at h
  obtain ⟨lv, elv⟩ : ∃ lv : rx_L, lv = [(0, .ref 174), (1, .int a1), (2, .int a2)] := ⟨_, rfl⟩
  rw [← elv]
  have l0 : rx_ld lv 0 = some (.ref 174) := by rw [elv]; rfl
  have l1 : rx_ld lv 1 = some (.int a1) := by rw [elv]; rfl
  have l2 : rx_ld lv 2 = some (.int a2) := by rw [elv]; rfl
  refine rs_aldn wi_118_0 l0 ?_
  refine rs_pure wi_118_1 rfl ?_
  refine rs_topi (v := 0) (by decide) ?_
  obtain ⟨c1, e2, h⟩ := wp_lt h
  refine dq_pi wi_118_2 wp_118_356 tf_174_0 rfl rfl e2 ?_
  refine rs_aldn wi_118_5 l0 ?_
  refine dq_gi wi_118_6 wf_118_634 tf_174_14 ?_
  refine rs_ifne (tg := 14) wi_118_9 ⟨by decide, by decide⟩ (fun q => ?_) (fun q => ?_)
  ·
    have h := wp_neg h q
    refine rs_ildn wi_118_14 l1 ?_
    by_cases q3 : a1 = 0
    ·
      have h := wp_pos h q3
      refine rs_tsk (tg := 72) (off := 57) (v := 0) wi_118_15 q3 (by decide) (by decide) ⟨by decide, by decide⟩ ?_
      refine rs_aldn wi_118_72 l0 ?_
      refine dq_gi wi_118_73 wf_118_447 tf_174_15 ?_
      exact rs_iret wi_118_76 wr_118 rfl (hQ ((c1.1 174 15), c1) h)
    have h := wp_neg h q3
    by_cases q4 : a1 = 1
    ·
      have h := wp_pos h q4
      refine rs_tsk (tg := 77) (off := 62) (v := 1) wi_118_15 q4 (by decide) (by decide) ⟨by decide, by decide⟩ ?_
      refine rs_aldn wi_118_77 l0 ?_
      refine dq_gi wi_118_78 wf_118_450 tf_174_24 ?_
      exact rs_iret wi_118_81 wr_118 rfl (hQ ((c1.1 174 24), c1) h)
    have h := wp_neg h q4
    by_cases q5 : a1 = 2
    ·
      have h := wp_pos h q5
      refine rs_tsk (tg := 82) (off := 67) (v := 2) wi_118_15 q5 (by decide) (by decide) ⟨by decide, by decide⟩ ?_
      refine rs_aldn wi_118_82 l0 ?_
      refine dq_gi wi_118_83 wf_118_453 tf_174_34 ?_
      exact rs_iret wi_118_86 wr_118 rfl (hQ ((c1.1 174 34), c1) h)
    have h := wp_neg h q5
    by_cases q6 : a1 = 3
    ·
      have h := wp_pos h q6
      refine rs_tsk (tg := 87) (off := 72) (v := 3) wi_118_15 q6 (by decide) (by decide) ⟨by decide, by decide⟩ ?_
      refine rs_aldn wi_118_87 l0 ?_
      refine dq_gi wi_118_88 wf_118_456 tf_174_37 ?_
      exact rs_iret wi_118_91 wr_118 rfl (hQ ((c1.1 174 37), c1) h)
    have h := wp_neg h q6
    by_cases q7 : a1 = 4
    ·
      have h := wp_pos h q7
      refine rs_tsk (tg := 92) (off := 77) (v := 4) wi_118_15 q7 (by decide) (by decide) ⟨by decide, by decide⟩ ?_
      refine rs_ildn wi_118_92 l2 ?_
      refine wp_jn (B := fun p8 : Int32 => ∀ lv, rs (rt_P sc fm) 118 F Lo 114 lv [.int p8] (hq false c1 y w) Q) h (fun p8 h lv => ?_) (fun j114 hj114 h => ?_)
      ·
        exact rs_iret wi_118_114 wr_118 rfl (hQ (p8, c1) h)
      refine wp_jn (B := fun p9 : Unit => ∀ lv, rs (rt_P sc fm) 118 F Lo 113 lv [] (hq false c1 y w) Q) h (fun p9 h lv => ?_) (fun j113 hj113 h => ?_)
      ·
        refine rs_pure wi_118_113 rfl ?_
        refine rs_topi (v := (-1)) (by decide) ?_
        exact hj114 _ h _
      refine rs_iflt (tg := 113) wi_118_93 ⟨by decide, by decide⟩ (fun q => ?_) (fun q => ?_)
      ·
        have h := wp_pos h q
        exact hj113 _ h _
      ·
        have h := wp_neg h q
        refine rs_ildn wi_118_96 l2 ?_
        refine rs_aldn wi_118_97 l0 ?_
        refine dq_gi wi_118_98 wf_118_447 tf_174_15 ?_
        refine rs_icge (tg := 113) wi_118_101 ⟨by decide, by decide⟩ (fun q => ?_) (fun q => ?_)
        ·
          have h := wp_pos h q
          exact hj113 _ h _
        ·
          have h := wp_neg h q
          refine rs_aldn wi_118_104 l0 ?_
          refine dq_gr wi_118_105 wf_118_97 tf_174_17 ?_
          refine rs_ildn wi_118_108 l2 ?_
          obtain ⟨g10, h⟩ := wp_gd h
          refine dq_iald wi_118_109 t_182 g10 ?_
          refine rs_goto (tg := 114) wi_118_110 ⟨by decide, by decide⟩ ?_
          exact hj114 _ h _
    have h := wp_neg h q7
    by_cases q11 : a1 = 5
    ·
      have h := wp_pos h q11
      refine rs_tsk (tg := 115) (off := 100) (v := 5) wi_118_15 q11 (by decide) (by decide) ⟨by decide, by decide⟩ ?_
      refine rs_ildn wi_118_115 l2 ?_
      refine wp_jn (B := fun p12 : Int32 => ∀ lv, rs (rt_P sc fm) 118 F Lo 137 lv [.int p12] (hq false c1 y w) Q) h (fun p12 h lv => ?_) (fun j137 hj137 h => ?_)
      ·
        exact rs_iret wi_118_137 wr_118 rfl (hQ (p12, c1) h)
      refine wp_jn (B := fun p13 : Unit => ∀ lv, rs (rt_P sc fm) 118 F Lo 136 lv [] (hq false c1 y w) Q) h (fun p13 h lv => ?_) (fun j136 hj136 h => ?_)
      ·
        refine rs_pure wi_118_136 rfl ?_
        refine rs_topi (v := (-1)) (by decide) ?_
        exact hj137 _ h _
      refine rs_iflt (tg := 136) wi_118_116 ⟨by decide, by decide⟩ (fun q => ?_) (fun q => ?_)
      ·
        have h := wp_pos h q
        exact hj136 _ h _
      ·
        have h := wp_neg h q
        refine rs_ildn wi_118_119 l2 ?_
        refine rs_aldn wi_118_120 l0 ?_
        refine dq_gi wi_118_121 wf_118_450 tf_174_24 ?_
        refine rs_icge (tg := 136) wi_118_124 ⟨by decide, by decide⟩ (fun q => ?_) (fun q => ?_)
        ·
          have h := wp_pos h q
          exact hj136 _ h _
        ·
          have h := wp_neg h q
          refine rs_aldn wi_118_127 l0 ?_
          refine dq_gr wi_118_128 wf_118_122 tf_174_26 ?_
          refine rs_ildn wi_118_131 l2 ?_
          obtain ⟨g14, h⟩ := wp_gd h
          refine dq_iald wi_118_132 t_190 g14 ?_
          refine rs_goto (tg := 137) wi_118_133 ⟨by decide, by decide⟩ ?_
          exact hj137 _ h _
    have h := wp_neg h q11
    by_cases q15 : a1 = 6
    ·
      have h := wp_pos h q15
      refine rs_tsk (tg := 138) (off := 123) (v := 6) wi_118_15 q15 (by decide) (by decide) ⟨by decide, by decide⟩ ?_
      refine rs_aldn wi_118_138 l0 ?_
      refine rs_ildn wi_118_139 l2 ?_
      refine rs_V wi_118_140 wc_118_718 rfl (dq_isa tf_174_0 wa_15_108) (Nat.le_trans (by decide) hF) (ml_le wm_108 (Nat.le_trans (by decide) hLo)) rfl (sp_108 hw (Nat.le_trans (by decide : 0 ≤ 2 - 1) (Nat.sub_le_sub_right hF 1)) (ml_sub wm_108 (Nat.le_trans (by decide : 0 ≤ 45 - 21) (Nat.sub_le_sub_right hLo 21))) (wp_bind h) (fun v16 h => rs_back1 ?_))
      refine wp_jn (B := fun p17 : Int32 => ∀ lv, rs (rt_P sc fm) 118 F Lo 156 lv [.int p17] (hq false c1 y w) Q) h (fun p17 h lv => ?_) (fun j156 hj156 h => ?_)
      ·
        exact rs_iret wi_118_156 wr_118 rfl (hQ (p17, c1) h)
      refine rs_ifeq (tg := 155) wi_118_143 ⟨by decide, by decide⟩ (fun q => ?_) (fun q => ?_)
      ·
        have h := wp_pos h q
        refine rs_pure wi_118_155 rfl ?_
        refine rs_topi (v := (-1)) (by decide) ?_
        exact hj156 _ h _
      ·
        have h := wp_neg h q
        refine rs_aldn wi_118_146 l0 ?_
        refine dq_gr wi_118_147 wf_118_158 tf_174_40 ?_
        refine rs_ildn wi_118_150 l2 ?_
        obtain ⟨g18, h⟩ := wp_gd h
        refine dq_iald wi_118_151 t_202 g18 ?_
        refine rs_goto (tg := 156) wi_118_152 ⟨by decide, by decide⟩ ?_
        exact hj156 _ h _
    have h := wp_neg h q15
    by_cases q19 : a1 = 7
    ·
      have h := wp_pos h q19
      refine rs_tsk (tg := 157) (off := 142) (v := 7) wi_118_15 q19 (by decide) (by decide) ⟨by decide, by decide⟩ ?_
      refine rs_aldn wi_118_157 l0 ?_
      refine rs_ildn wi_118_158 l2 ?_
      refine rs_V wi_118_159 wc_118_718 rfl (dq_isa tf_174_0 wa_15_108) (Nat.le_trans (by decide) hF) (ml_le wm_108 (Nat.le_trans (by decide) hLo)) rfl (sp_108 hw (Nat.le_trans (by decide : 0 ≤ 2 - 1) (Nat.sub_le_sub_right hF 1)) (ml_sub wm_108 (Nat.le_trans (by decide : 0 ≤ 45 - 21) (Nat.sub_le_sub_right hLo 21))) (wp_bind h) (fun v20 h => rs_back1 ?_))
      refine wp_jn (B := fun p21 : Int32 => ∀ lv, rs (rt_P sc fm) 118 F Lo 175 lv [.int p21] (hq false c1 y w) Q) h (fun p21 h lv => ?_) (fun j175 hj175 h => ?_)
      ·
        exact rs_iret wi_118_175 wr_118 rfl (hQ (p21, c1) h)
      refine rs_ifeq (tg := 174) wi_118_162 ⟨by decide, by decide⟩ (fun q => ?_) (fun q => ?_)
      ·
        have h := wp_pos h q
        refine rs_pure wi_118_174 rfl ?_
        refine rs_topi (v := (-1)) (by decide) ?_
        exact hj175 _ h _
      ·
        have h := wp_neg h q
        refine rs_aldn wi_118_165 l0 ?_
        refine dq_gr wi_118_166 wf_118_161 tf_174_41 ?_
        refine rs_ildn wi_118_169 l2 ?_
        obtain ⟨g22, h⟩ := wp_gd h
        refine dq_iald wi_118_170 t_203 g22 ?_
        refine rs_goto (tg := 175) wi_118_171 ⟨by decide, by decide⟩ ?_
        exact hj175 _ h _
    have h := wp_neg h q19
    by_cases q23 : a1 = 8
    ·
      have h := wp_pos h q23
      refine rs_tsk (tg := 176) (off := 161) (v := 8) wi_118_15 q23 (by decide) (by decide) ⟨by decide, by decide⟩ ?_
      refine rs_aldn wi_118_176 l0 ?_
      refine rs_ildn wi_118_177 l2 ?_
      refine rs_V wi_118_178 wc_118_721 rfl (dq_isa tf_174_0 wa_15_111) (Nat.le_trans (by decide) hF) (ml_le wm_111 (Nat.le_trans (by decide) hLo)) rfl (sp_111 hw (Nat.le_trans (by decide : 1 ≤ 2 - 1) (Nat.sub_le_sub_right hF 1)) (ml_sub wm_111 (Nat.le_trans (by decide : 24 ≤ 45 - 21) (Nat.sub_le_sub_right hLo 21))) (wp_bind h) (fun v24 h => rs_back1 ?_))
      refine wp_jn (B := fun p25 : Int32 => ∀ lv, rs (rt_P sc fm) 118 F Lo 197 lv [.int p25] (hq false c1 y w) Q) h (fun p25 h lv => ?_) (fun j197 hj197 h => ?_)
      ·
        exact rs_iret wi_118_197 wr_118 rfl (hQ (p25, c1) h)
      refine rs_ifeq (tg := 196) wi_118_181 ⟨by decide, by decide⟩ (fun q => ?_) (fun q => ?_)
      ·
        have h := wp_pos h q
        refine rs_pure wi_118_196 rfl ?_
        refine rs_topi (v := (-1)) (by decide) ?_
        exact hj197 _ h _
      ·
        have h := wp_neg h q
        refine rs_aldn wi_118_184 l0 ?_
        refine dq_gr wi_118_185 wf_118_173 tf_174_45 ?_
        refine rs_ildn wi_118_188 l2 ?_
        refine rs_S wi_118_189 wc_118_658 (Or.inl rfl) rfl (Nat.le_trans (by decide) hF) (ml_le wm_421 (Nat.le_trans (by decide) hLo)) rfl (sp_421 (Nat.le_trans (by decide : 0 ≤ 2 - 1) (Nat.sub_le_sub_right hF 1)) (ml_sub wm_421 (Nat.le_trans (by decide : 0 ≤ 45 - 20) (Nat.sub_le_sub_right hLo 20))) (wp_bind h) (fun v26 h => rs_back1 ?_))
        obtain ⟨g27, h⟩ := wp_gd h
        refine dq_iald wi_118_192 t_207 g27 ?_
        refine rs_goto (tg := 197) wi_118_193 ⟨by decide, by decide⟩ ?_
        exact hj197 _ h _
    have h := wp_neg h q23
    by_cases q28 : a1 = 9
    ·
      have h := wp_pos h q28
      refine rs_tsk (tg := 198) (off := 183) (v := 9) wi_118_15 q28 (by decide) (by decide) ⟨by decide, by decide⟩ ?_
      refine rs_aldn wi_118_198 l0 ?_
      refine rs_ildn wi_118_199 l2 ?_
      refine rs_V wi_118_200 wc_118_721 rfl (dq_isa tf_174_0 wa_15_111) (Nat.le_trans (by decide) hF) (ml_le wm_111 (Nat.le_trans (by decide) hLo)) rfl (sp_111 hw (Nat.le_trans (by decide : 1 ≤ 2 - 1) (Nat.sub_le_sub_right hF 1)) (ml_sub wm_111 (Nat.le_trans (by decide : 24 ≤ 45 - 21) (Nat.sub_le_sub_right hLo 21))) (wp_bind h) (fun v29 h => rs_back1 ?_))
      refine wp_jn (B := fun p30 : Int32 => ∀ lv, rs (rt_P sc fm) 118 F Lo 219 lv [.int p30] (hq false c1 y w) Q) h (fun p30 h lv => ?_) (fun j219 hj219 h => ?_)
      ·
        exact rs_iret wi_118_219 wr_118 rfl (hQ (p30, c1) h)
      refine rs_ifeq (tg := 218) wi_118_203 ⟨by decide, by decide⟩ (fun q => ?_) (fun q => ?_)
      ·
        have h := wp_pos h q
        refine rs_pure wi_118_218 rfl ?_
        refine rs_topi (v := (-1)) (by decide) ?_
        exact hj219 _ h _
      ·
        have h := wp_neg h q
        refine rs_aldn wi_118_206 l0 ?_
        refine dq_gr wi_118_207 wf_118_182 tf_174_48 ?_
        refine rs_ildn wi_118_210 l2 ?_
        refine rs_S wi_118_211 wc_118_658 (Or.inl rfl) rfl (Nat.le_trans (by decide) hF) (ml_le wm_421 (Nat.le_trans (by decide) hLo)) rfl (sp_421 (Nat.le_trans (by decide : 0 ≤ 2 - 1) (Nat.sub_le_sub_right hF 1)) (ml_sub wm_421 (Nat.le_trans (by decide : 0 ≤ 45 - 20) (Nat.sub_le_sub_right hLo 20))) (wp_bind h) (fun v31 h => rs_back1 ?_))
        obtain ⟨g32, h⟩ := wp_gd h
        refine dq_iald wi_118_214 t_210 g32 ?_
        refine rs_goto (tg := 219) wi_118_215 ⟨by decide, by decide⟩ ?_
        exact hj219 _ h _
    have h := wp_neg h q28
    by_cases q33 : a1 = 10
    ·
      have h := wp_pos h q33
      refine rs_tsk (tg := 220) (off := 205) (v := 10) wi_118_15 q33 (by decide) (by decide) ⟨by decide, by decide⟩ ?_
      refine rs_aldn wi_118_220 l0 ?_
      refine rs_ildn wi_118_221 l2 ?_
      refine rs_V wi_118_222 wc_118_652 rfl (dq_isa tf_174_0 wa_15_109) (Nat.le_trans (by decide) hF) (ml_le wm_109 (Nat.le_trans (by decide) hLo)) rfl (sp_109 hw (Nat.le_trans (by decide : 0 ≤ 2 - 1) (Nat.sub_le_sub_right hF 1)) (ml_sub wm_109 (Nat.le_trans (by decide : 0 ≤ 45 - 24) (Nat.sub_le_sub_right hLo 24))) (wp_bind h) (fun v34 h => rs_back1 ?_))
      refine wp_jn (B := fun p35 : Int32 => ∀ lv, rs (rt_P sc fm) 118 F Lo 238 lv [.int p35] (hq false c1 y w) Q) h (fun p35 h lv => ?_) (fun j238 hj238 h => ?_)
      ·
        exact rs_iret wi_118_238 wr_118 rfl (hQ (p35, c1) h)
      refine rs_ifeq (tg := 237) wi_118_225 ⟨by decide, by decide⟩ (fun q => ?_) (fun q => ?_)
      ·
        have h := wp_pos h q
        refine rs_pure wi_118_237 rfl ?_
        refine rs_topi (v := (-1)) (by decide) ?_
        exact hj238 _ h _
      ·
        have h := wp_neg h q
        refine rs_aldn wi_118_228 l0 ?_
        refine dq_gr wi_118_229 wf_118_218 tf_174_60 ?_
        refine rs_ildn wi_118_232 l2 ?_
        obtain ⟨g36, h⟩ := wp_gd h
        refine dq_iald wi_118_233 t_222 g36 ?_
        refine rs_goto (tg := 238) wi_118_234 ⟨by decide, by decide⟩ ?_
        exact hj238 _ h _
    have h := wp_neg h q33
    refine rs_tsd (tg := 239) wi_118_15 (rz_sw fun k k1 k2 => by
      have kk : k = 0 ∨ k = 1 ∨ k = 2 ∨ k = 3 ∨ k = 4 ∨ k = 5 ∨ k = 6 ∨ k = 7 ∨ k = 8 ∨ k = 9 ∨ k = 10 := by omega
      rcases kk with rfl | rfl | rfl | rfl | rfl | rfl | rfl | rfl | rfl | rfl | rfl
      · exact q3
      · exact q4
      · exact q5
      · exact q6
      · exact q7
      · exact q11
      · exact q15
      · exact q19
      · exact q23
      · exact q28
      · exact q33
      ) ⟨by decide, by decide⟩ ?_
    refine rs_pure wi_118_239 rfl ?_
    refine rs_topi (v := (-1)) (by decide) ?_
    exact rs_iret wi_118_240 wr_118 rfl (hQ ((-1), c1) h)
  ·
    have h := wp_pos h q
    refine rs_pure wi_118_12 rfl ?_
    refine rs_topi (v := (-1)) (by decide) ?_
    exact rs_iret wi_118_13 wr_118 rfl (hQ ((-1), c1) h)
theorem wf_119_447 : rx_ft (rt_P sc fm) 119 447 = some (15, 15) := (by decide +kernel : rt_ft 119 447 = some (15, 15))
theorem wf_119_634 : rx_ft (rt_P sc fm) 119 634 = some (15, 14) := (by decide +kernel : rt_ft 119 634 = some (15, 14))
theorem wi_119_0 : ri (rt_P sc fm) 119 0 (.aload_n 0) (1) := ri_of (by decide +kernel) rfl
theorem wi_119_1 : ri (rt_P sc fm) 119 1 (.getfield 634) (4) := ri_of (by decide +kernel) rfl
theorem wi_119_11 : ri (rt_P sc fm) 119 11 (.iload_n 1) (12) := ri_of (by decide +kernel) rfl
theorem wi_119_12 : ri (rt_P sc fm) 119 12 (.aload_n 0) (13) := ri_of (by decide +kernel) rfl
theorem wi_119_13 : ri (rt_P sc fm) 119 13 (.getfield 447) (16) := ri_of (by decide +kernel) rfl
theorem wi_119_16 : ri (rt_P sc fm) 119 16 (.if_icmp .ge 7) (19) := ri_of (by decide +kernel) rfl
theorem wi_119_19 : ri (rt_P sc fm) 119 19 (.iconst 1) (20) := ri_of (by decide +kernel) rfl
theorem wi_119_20 : ri (rt_P sc fm) 119 20 (.goto 4) (23) := ri_of (by decide +kernel) rfl
theorem wi_119_23 : ri (rt_P sc fm) 119 23 (.iconst 0) (24) := ri_of (by decide +kernel) rfl
theorem wi_119_24 : ri (rt_P sc fm) 119 24 (.ireturn) (25) := ri_of (by decide +kernel) rfl
theorem wi_119_4 : ri (rt_P sc fm) 119 4 (.ifCond .eq 19) (7) := ri_of (by decide +kernel) rfl
theorem wi_119_7 : ri (rt_P sc fm) 119 7 (.iload_n 1) (8) := ri_of (by decide +kernel) rfl
theorem wi_119_8 : ri (rt_P sc fm) 119 8 (.ifCond .lt 15) (11) := ri_of (by decide +kernel) rfl
theorem wr_119 : rx_rt (rt_P sc fm) 119 = (some FieldType.boolean) := (by decide +kernel : rt_rt 119 = (some FieldType.boolean))
/-- MarkHouseModel.isOrder(I)Z -/
def d_119 (n : Nat) (a1 : Int32) (c : cS) : Option (Int32) :=
  jn (fun p1 : Int32 =>
    if nb p1 then
    some p1
    else none)
  (fun j24 =>
  jn (fun p3 : Unit =>
    j24 0)
  (fun j23 =>
  if (c.1 174 14) = 0 then
    j23 ()
  else
    if a1 < 0 then
      j23 ()
    else
      if (c.1 174 15) ≤ a1 then
        j23 ()
      else
        j24 1))
set_option maxRecDepth 100000 in
set_option maxHeartbeats 4000000 in
theorem sp_119 {F Lo n : Nat} {a1 : Int32} {c y : cS} {w : cW} {K : Int32 → Prop} {Q : ((Option Value) ⊕ String) → List va_E → Prop} (hw : rOK fm w) (hF : 0 ≤ F) (hLo : 0 ≤ Lo)  (h : wp (d_119 n a1 c) K) (hQ : ∀ r, K r → Q (.inl (some (.int r))) (hq false c y w)) : rs (rt_P sc fm) 119 F Lo 0 [(0, .ref 174), (1, .int a1)] [] (hq false c y w) Q := by
  unfold d_119 at h
  obtain ⟨lv, elv⟩ : ∃ lv : rx_L, lv = [(0, .ref 174), (1, .int a1)] := ⟨_, rfl⟩
  rw [← elv]
  have l0 : rx_ld lv 0 = some (.ref 174) := by rw [elv]; rfl
  have l1 : rx_ld lv 1 = some (.int a1) := by rw [elv]; rfl
  refine rs_aldn wi_119_0 l0 ?_
  refine dq_gi wi_119_1 wf_119_634 tf_174_14 ?_
  refine wp_jn (B := fun p1 : Int32 => ∀ lv, rs (rt_P sc fm) 119 F Lo 24 lv [.int p1] (hq false c y w) Q) h (fun p1 h lv => ?_) (fun j24 hj24 h => ?_)
  ·
    obtain ⟨g2, h⟩ := wp_gd h
    exact rs_iret wi_119_24 wr_119 (nb_n g2) (hQ p1 h)
  refine wp_jn (B := fun p3 : Unit => ∀ lv, rs (rt_P sc fm) 119 F Lo 23 lv [] (hq false c y w) Q) h (fun p3 h lv => ?_) (fun j23 hj23 h => ?_)
  ·
    refine rs_pure wi_119_23 rfl ?_
    refine rs_topi (v := 0) (by decide) ?_
    exact hj24 _ h _
  refine rs_ifeq (tg := 23) wi_119_4 ⟨by decide, by decide⟩ (fun q => ?_) (fun q => ?_)
  ·
    have h := wp_pos h q
    exact hj23 _ h _
  ·
    have h := wp_neg h q
    refine rs_ildn wi_119_7 l1 ?_
    refine rs_iflt (tg := 23) wi_119_8 ⟨by decide, by decide⟩ (fun q => ?_) (fun q => ?_)
    ·
      have h := wp_pos h q
      exact hj23 _ h _
    ·
      have h := wp_neg h q
      refine rs_ildn wi_119_11 l1 ?_
      refine rs_aldn wi_119_12 l0 ?_
      refine dq_gi wi_119_13 wf_119_447 tf_174_15 ?_
      refine rs_icge (tg := 23) wi_119_16 ⟨by decide, by decide⟩ (fun q => ?_) (fun q => ?_)
      ·
        have h := wp_pos h q
        exact hj23 _ h _
      ·
        have h := wp_neg h q
        refine rs_pure wi_119_19 rfl ?_
        refine rs_topi (v := 1) (by decide) ?_
        refine rs_goto (tg := 24) wi_119_20 ⟨by decide, by decide⟩ ?_
        exact hj24 _ h _
theorem wc_390_524 : rx_ct (rt_P sc fm) 390 524 = some (0, 385, 3) := (by decide +kernel : rt_ct 390 524 = some (0, 385, 3))
theorem wf_390_107 : rx_ft (rt_P sc fm) 390 107 = some (15, 20) := (by decide +kernel : rt_ft 390 107 = some (15, 20))
theorem wi_390_0 : ri (rt_P sc fm) 390 0 (.aload_n 0) (1) := ri_of (by decide +kernel) rfl
theorem wi_390_1 : ri (rt_P sc fm) 390 1 (.getfield 107) (4) := ri_of (by decide +kernel) rfl
theorem wi_390_11 : ri (rt_P sc fm) 390 11 (.iaload) (12) := ri_of (by decide +kernel) rfl
theorem wi_390_12 : ri (rt_P sc fm) 390 12 (.ireturn) (13) := ri_of (by decide +kernel) rfl
theorem wi_390_4 : ri (rt_P sc fm) 390 4 (.aload_n 0) (5) := ri_of (by decide +kernel) rfl
theorem wi_390_5 : ri (rt_P sc fm) 390 5 (.iload_n 1) (6) := ri_of (by decide +kernel) rfl
theorem wi_390_6 : ri (rt_P sc fm) 390 6 (.iload_n 2) (7) := ri_of (by decide +kernel) rfl
theorem wi_390_7 : ri (rt_P sc fm) 390 7 (.iload_n 3) (8) := ri_of (by decide +kernel) rfl
theorem wi_390_8 : ri (rt_P sc fm) 390 8 (.invokevirtual 524) (11) := ri_of (by decide +kernel) rfl
theorem wr_390 : rx_rt (rt_P sc fm) 390 = (some FieldType.int) := (by decide +kernel : rt_rt 390 = (some FieldType.int))
/-- MarkHouseModel.join(III)I -/
def d_390 (n : Nat) (a1 : Int32) (a2 : Int32) (a3 : Int32) (c : cS) : Option (Int32) :=
  Option.bind (d_385 n a1 a2 a3) (fun v1 =>
  if ib v1 576 then
  some (c.1 185 (ix v1))
  else none)
set_option maxRecDepth 100000 in
set_option maxHeartbeats 4000000 in
theorem sp_390 {F Lo n : Nat} {a1 : Int32} {a2 : Int32} {a3 : Int32} {c y : cS} {w : cW} {K : Int32 → Prop} {Q : ((Option Value) ⊕ String) → List va_E → Prop} (hw : rOK fm w) (hF : 1 ≤ F) (hLo : 23 ≤ Lo)  (h : wp (d_390 n a1 a2 a3 c) K) (hQ : ∀ r, K r → Q (.inl (some (.int r))) (hq false c y w)) : rs (rt_P sc fm) 390 F Lo 0 [(0, .ref 174), (1, .int a1), (2, .int a2), (3, .int a3)] [] (hq false c y w) Q := by
  unfold d_390 at h
  obtain ⟨lv, elv⟩ : ∃ lv : rx_L, lv = [(0, .ref 174), (1, .int a1), (2, .int a2), (3, .int a3)] := ⟨_, rfl⟩
  rw [← elv]
  have l0 : rx_ld lv 0 = some (.ref 174) := by rw [elv]; rfl
  have l1 : rx_ld lv 1 = some (.int a1) := by rw [elv]; rfl
  have l2 : rx_ld lv 2 = some (.int a2) := by rw [elv]; rfl
  have l3 : rx_ld lv 3 = some (.int a3) := by rw [elv]; rfl
  refine rs_aldn wi_390_0 l0 ?_
  refine dq_gr wi_390_1 wf_390_107 tf_174_20 ?_
  refine rs_aldn wi_390_4 l0 ?_
  refine rs_ildn wi_390_5 l1 ?_
  refine rs_ildn wi_390_6 l2 ?_
  refine rs_ildn wi_390_7 l3 ?_
  refine rs_V wi_390_8 wc_390_524 rfl (dq_isa tf_174_0 wa_15_385) (Nat.le_trans (by decide) hF) (ml_le wm_385 (Nat.le_trans (by decide) hLo)) rfl (sp_385 (Nat.le_trans (by decide : 0 ≤ 1 - 1) (Nat.sub_le_sub_right hF 1)) (ml_sub wm_385 (Nat.le_trans (by decide : 0 ≤ 23 - 23) (Nat.sub_le_sub_right hLo 23))) (wp_bind h) (fun v1 h => rs_back1 ?_))
  obtain ⟨g2, h⟩ := wp_gd h
  refine dq_iald wi_390_11 t_185 g2 ?_
  exact rs_iret wi_390_12 wr_390 rfl (hQ (c.1 185 (ix v1)) h)
theorem wc_391_524 : rx_ct (rt_P sc fm) 391 524 = some (0, 385, 3) := (by decide +kernel : rt_ct 391 524 = some (0, 385, 3))
theorem wf_391_110 : rx_ft (rt_P sc fm) 391 110 = some (15, 21) := (by decide +kernel : rt_ft 391 110 = some (15, 21))
theorem wi_391_0 : ri (rt_P sc fm) 391 0 (.aload_n 0) (1) := ri_of (by decide +kernel) rfl
theorem wi_391_1 : ri (rt_P sc fm) 391 1 (.getfield 110) (4) := ri_of (by decide +kernel) rfl
theorem wi_391_11 : ri (rt_P sc fm) 391 11 (.iaload) (12) := ri_of (by decide +kernel) rfl
theorem wi_391_12 : ri (rt_P sc fm) 391 12 (.ireturn) (13) := ri_of (by decide +kernel) rfl
theorem wi_391_4 : ri (rt_P sc fm) 391 4 (.aload_n 0) (5) := ri_of (by decide +kernel) rfl
theorem wi_391_5 : ri (rt_P sc fm) 391 5 (.iload_n 1) (6) := ri_of (by decide +kernel) rfl
theorem wi_391_6 : ri (rt_P sc fm) 391 6 (.iload_n 2) (7) := ri_of (by decide +kernel) rfl
theorem wi_391_7 : ri (rt_P sc fm) 391 7 (.iload_n 3) (8) := ri_of (by decide +kernel) rfl
theorem wi_391_8 : ri (rt_P sc fm) 391 8 (.invokevirtual 524) (11) := ri_of (by decide +kernel) rfl
theorem wr_391 : rx_rt (rt_P sc fm) 391 = (some FieldType.int) := (by decide +kernel : rt_rt 391 = (some FieldType.int))
/-- MarkHouseModel.meet(III)I -/
def d_391 (n : Nat) (a1 : Int32) (a2 : Int32) (a3 : Int32) (c : cS) : Option (Int32) :=
  Option.bind (d_385 n a1 a2 a3) (fun v1 =>
  if ib v1 576 then
  some (c.1 186 (ix v1))
  else none)
set_option maxRecDepth 100000 in
set_option maxHeartbeats 4000000 in
theorem sp_391 {F Lo n : Nat} {a1 : Int32} {a2 : Int32} {a3 : Int32} {c y : cS} {w : cW} {K : Int32 → Prop} {Q : ((Option Value) ⊕ String) → List va_E → Prop} (hw : rOK fm w) (hF : 1 ≤ F) (hLo : 23 ≤ Lo)  (h : wp (d_391 n a1 a2 a3 c) K) (hQ : ∀ r, K r → Q (.inl (some (.int r))) (hq false c y w)) : rs (rt_P sc fm) 391 F Lo 0 [(0, .ref 174), (1, .int a1), (2, .int a2), (3, .int a3)] [] (hq false c y w) Q := by
  unfold d_391 at h
  obtain ⟨lv, elv⟩ : ∃ lv : rx_L, lv = [(0, .ref 174), (1, .int a1), (2, .int a2), (3, .int a3)] := ⟨_, rfl⟩
  rw [← elv]
  have l0 : rx_ld lv 0 = some (.ref 174) := by rw [elv]; rfl
  have l1 : rx_ld lv 1 = some (.int a1) := by rw [elv]; rfl
  have l2 : rx_ld lv 2 = some (.int a2) := by rw [elv]; rfl
  have l3 : rx_ld lv 3 = some (.int a3) := by rw [elv]; rfl
  refine rs_aldn wi_391_0 l0 ?_
  refine dq_gr wi_391_1 wf_391_110 tf_174_21 ?_
  refine rs_aldn wi_391_4 l0 ?_
  refine rs_ildn wi_391_5 l1 ?_
  refine rs_ildn wi_391_6 l2 ?_
  refine rs_ildn wi_391_7 l3 ?_
  refine rs_V wi_391_8 wc_391_524 rfl (dq_isa tf_174_0 wa_15_385) (Nat.le_trans (by decide) hF) (ml_le wm_385 (Nat.le_trans (by decide) hLo)) rfl (sp_385 (Nat.le_trans (by decide : 0 ≤ 1 - 1) (Nat.sub_le_sub_right hF 1)) (ml_sub wm_385 (Nat.le_trans (by decide : 0 ≤ 23 - 23) (Nat.sub_le_sub_right hLo 23))) (wp_bind h) (fun v1 h => rs_back1 ?_))
  obtain ⟨g2, h⟩ := wp_gd h
  refine dq_iald wi_391_11 t_186 g2 ?_
  exact rs_iret wi_391_12 wr_391 rfl (hQ (c.1 186 (ix v1)) h)
theorem wa_15_119 : rz_cn 15 (rx_yn (rt_P sc fm) 119).cls = true := (by decide +kernel : rz_cn 15 (rt_yn 119).cls = true)
theorem wa_15_390 : rz_cn 15 (rx_yn (rt_P sc fm) 390).cls = true := (by decide +kernel : rz_cn 15 (rt_yn 390).cls = true)
theorem wa_15_391 : rz_cn 15 (rx_yn (rt_P sc fm) 391).cls = true := (by decide +kernel : rz_cn 15 (rt_yn 391).cls = true)
theorem wc_120_535 : rx_ct (rt_P sc fm) 120 535 = some (0, 387, 3) := (by decide +kernel : rt_ct 120 535 = some (0, 387, 3))
theorem wc_120_724 : rx_ct (rt_P sc fm) 120 724 = some (0, 119, 1) := (by decide +kernel : rt_ct 120 724 = some (0, 119, 1))
theorem wc_120_727 : rx_ct (rt_P sc fm) 120 727 = some (0, 390, 3) := (by decide +kernel : rt_ct 120 727 = some (0, 390, 3))
theorem wc_120_730 : rx_ct (rt_P sc fm) 120 730 = some (0, 391, 3) := (by decide +kernel : rt_ct 120 730 = some (0, 391, 3))
theorem wf_120_97 : rx_ft (rt_P sc fm) 120 97 = some (15, 17) := (by decide +kernel : rt_ft 120 97 = some (15, 17))
theorem wi_120_0 : ri (rt_P sc fm) 120 0 (.aload_n 0) (1) := ri_of (by decide +kernel) rfl
theorem wi_120_1 : ri (rt_P sc fm) 120 1 (.iconst 0) (2) := ri_of (by decide +kernel) rfl
theorem wi_120_10 : ri (rt_P sc fm) 120 10 (.ifCond .eq 31) (13) := ri_of (by decide +kernel) rfl
theorem wi_120_13 : ri (rt_P sc fm) 120 13 (.iload_n 2) (14) := ri_of (by decide +kernel) rfl
theorem wi_120_14 : ri (rt_P sc fm) 120 14 (.ifCond .lt 27) (17) := ri_of (by decide +kernel) rfl
theorem wi_120_17 : ri (rt_P sc fm) 120 17 (.iload_n 2) (18) := ri_of (by decide +kernel) rfl
theorem wi_120_18 : ri (rt_P sc fm) 120 18 (.aload_n 0) (19) := ri_of (by decide +kernel) rfl
theorem wi_120_19 : ri (rt_P sc fm) 120 19 (.getfield 97) (22) := ri_of (by decide +kernel) rfl
theorem wi_120_2 : ri (rt_P sc fm) 120 2 (.putfield 356) (5) := ri_of (by decide +kernel) rfl
theorem wi_120_22 : ri (rt_P sc fm) 120 22 (.iload_n 1) (23) := ri_of (by decide +kernel) rfl
theorem wi_120_23 : ri (rt_P sc fm) 120 23 (.iaload) (24) := ri_of (by decide +kernel) rfl
theorem wi_120_24 : ri (rt_P sc fm) 120 24 (.if_icmp .ge 17) (27) := ri_of (by decide +kernel) rfl
theorem wi_120_27 : ri (rt_P sc fm) 120 27 (.iload_n 3) (28) := ri_of (by decide +kernel) rfl
theorem wi_120_28 : ri (rt_P sc fm) 120 28 (.ifCond .lt 13) (31) := ri_of (by decide +kernel) rfl
theorem wi_120_31 : ri (rt_P sc fm) 120 31 (.iload_n 3) (32) := ri_of (by decide +kernel) rfl
theorem wi_120_32 : ri (rt_P sc fm) 120 32 (.aload_n 0) (33) := ri_of (by decide +kernel) rfl
theorem wi_120_33 : ri (rt_P sc fm) 120 33 (.getfield 97) (36) := ri_of (by decide +kernel) rfl
theorem wi_120_36 : ri (rt_P sc fm) 120 36 (.iload_n 1) (37) := ri_of (by decide +kernel) rfl
theorem wi_120_37 : ri (rt_P sc fm) 120 37 (.iaload) (38) := ri_of (by decide +kernel) rfl
theorem wi_120_38 : ri (rt_P sc fm) 120 38 (.if_icmp .lt 5) (41) := ri_of (by decide +kernel) rfl
theorem wi_120_41 : ri (rt_P sc fm) 120 41 (.iconst (-1)) (42) := ri_of (by decide +kernel) rfl
theorem wi_120_42 : ri (rt_P sc fm) 120 42 (.ireturn) (43) := ri_of (by decide +kernel) rfl
theorem wi_120_43 : ri (rt_P sc fm) 120 43 (.iload 4) (45) := ri_of (by decide +kernel) rfl
theorem wi_120_45 : ri (rt_P sc fm) 120 45 (.ifCond .ne 21) (48) := ri_of (by decide +kernel) rfl
theorem wi_120_48 : ri (rt_P sc fm) 120 48 (.aload_n 0) (49) := ri_of (by decide +kernel) rfl
theorem wi_120_49 : ri (rt_P sc fm) 120 49 (.iload_n 1) (50) := ri_of (by decide +kernel) rfl
theorem wi_120_5 : ri (rt_P sc fm) 120 5 (.aload_n 0) (6) := ri_of (by decide +kernel) rfl
theorem wi_120_50 : ri (rt_P sc fm) 120 50 (.iload_n 2) (51) := ri_of (by decide +kernel) rfl
theorem wi_120_51 : ri (rt_P sc fm) 120 51 (.iload_n 3) (52) := ri_of (by decide +kernel) rfl
theorem wi_120_52 : ri (rt_P sc fm) 120 52 (.invokevirtual 535) (55) := ri_of (by decide +kernel) rfl
theorem wi_120_55 : ri (rt_P sc fm) 120 55 (.ifCond .eq 7) (58) := ri_of (by decide +kernel) rfl
theorem wi_120_58 : ri (rt_P sc fm) 120 58 (.iconst 1) (59) := ri_of (by decide +kernel) rfl
theorem wi_120_59 : ri (rt_P sc fm) 120 59 (.goto 40) (62) := ri_of (by decide +kernel) rfl
theorem wi_120_6 : ri (rt_P sc fm) 120 6 (.iload_n 1) (7) := ri_of (by decide +kernel) rfl
theorem wi_120_62 : ri (rt_P sc fm) 120 62 (.iconst 0) (63) := ri_of (by decide +kernel) rfl
theorem wi_120_63 : ri (rt_P sc fm) 120 63 (.goto 36) (66) := ri_of (by decide +kernel) rfl
theorem wi_120_66 : ri (rt_P sc fm) 120 66 (.iload 4) (68) := ri_of (by decide +kernel) rfl
theorem wi_120_68 : ri (rt_P sc fm) 120 68 (.iconst 1) (69) := ri_of (by decide +kernel) rfl
theorem wi_120_69 : ri (rt_P sc fm) 120 69 (.if_icmp .ne 13) (72) := ri_of (by decide +kernel) rfl
theorem wi_120_7 : ri (rt_P sc fm) 120 7 (.invokevirtual 724) (10) := ri_of (by decide +kernel) rfl
theorem wi_120_72 : ri (rt_P sc fm) 120 72 (.aload_n 0) (73) := ri_of (by decide +kernel) rfl
theorem wi_120_73 : ri (rt_P sc fm) 120 73 (.iload_n 1) (74) := ri_of (by decide +kernel) rfl
theorem wi_120_74 : ri (rt_P sc fm) 120 74 (.iload_n 2) (75) := ri_of (by decide +kernel) rfl
theorem wi_120_75 : ri (rt_P sc fm) 120 75 (.iload_n 3) (76) := ri_of (by decide +kernel) rfl
theorem wi_120_76 : ri (rt_P sc fm) 120 76 (.invokevirtual 727) (79) := ri_of (by decide +kernel) rfl
theorem wi_120_79 : ri (rt_P sc fm) 120 79 (.goto 20) (82) := ri_of (by decide +kernel) rfl
theorem wi_120_82 : ri (rt_P sc fm) 120 82 (.iload 4) (84) := ri_of (by decide +kernel) rfl
theorem wi_120_84 : ri (rt_P sc fm) 120 84 (.iconst 2) (85) := ri_of (by decide +kernel) rfl
theorem wi_120_85 : ri (rt_P sc fm) 120 85 (.if_icmp .ne 13) (88) := ri_of (by decide +kernel) rfl
theorem wi_120_88 : ri (rt_P sc fm) 120 88 (.aload_n 0) (89) := ri_of (by decide +kernel) rfl
theorem wi_120_89 : ri (rt_P sc fm) 120 89 (.iload_n 1) (90) := ri_of (by decide +kernel) rfl
theorem wi_120_90 : ri (rt_P sc fm) 120 90 (.iload_n 2) (91) := ri_of (by decide +kernel) rfl
theorem wi_120_91 : ri (rt_P sc fm) 120 91 (.iload_n 3) (92) := ri_of (by decide +kernel) rfl
theorem wi_120_92 : ri (rt_P sc fm) 120 92 (.invokevirtual 730) (95) := ri_of (by decide +kernel) rfl
theorem wi_120_95 : ri (rt_P sc fm) 120 95 (.goto 4) (98) := ri_of (by decide +kernel) rfl
theorem wi_120_98 : ri (rt_P sc fm) 120 98 (.iconst (-1)) (99) := ri_of (by decide +kernel) rfl
theorem wi_120_99 : ri (rt_P sc fm) 120 99 (.ireturn) (100) := ri_of (by decide +kernel) rfl
theorem wm_119 : rx_ml (rt_P sc fm) 119 = 2 := (by decide +kernel : rt_ml 119 = 2)
theorem wm_390 : rx_ml (rt_P sc fm) 390 = 4 := (by decide +kernel : rt_ml 390 = 4)
theorem wm_391 : rx_ml (rt_P sc fm) 391 = 4 := (by decide +kernel : rt_ml 391 = 4)
theorem wp_120_356 : rx_pt (rt_P sc fm) 120 356 = some (15, 0, .int) := (by decide +kernel : rt_pt 120 356 = some (15, 0, .int))
theorem wr_120 : rx_rt (rt_P sc fm) 120 = (some FieldType.int) := (by decide +kernel : rt_rt 120 = (some FieldType.int))
/-- MarkHouseModel.order(IIII)I -/
def d_120 (n : Nat) (a1 : Int32) (a2 : Int32) (a3 : Int32) (a4 : Int32) (c : cS) : Option (Int32 × cS) :=
  lt (pI c 174 0 0) (fun c1 =>
  Option.bind (d_119 n a1 c1) (fun v3 =>
  jn (fun p4 : Unit =>
    some ((-1), c1))
  (fun j41 =>
  if v3 = 0 then
    j41 ()
  else
    if a2 < 0 then
      j41 ()
    else
      if ib a1 4 then
      if (c1.1 182 (ix a1)) ≤ a2 then
        j41 ()
      else
        if a3 < 0 then
          j41 ()
        else
          if ib a1 4 then
          if a3 < (c1.1 182 (ix a1)) then
            jn (fun p7 : Int32 =>
              some (p7, c1))
            (fun j99 =>
            if a4 = 0 then
              Option.bind (d_387 n a1 a2 a3 c1) (fun v10 =>
              if v10 = 0 then
                j99 0
              else
                j99 1)
            else
              if a4 = 1 then
                Option.bind (d_390 n a1 a2 a3 c1) (fun v9 =>
                j99 v9)
              else
                if a4 = 2 then
                  Option.bind (d_391 n a1 a2 a3 c1) (fun v8 =>
                  j99 v8)
                else
                  j99 (-1))
          else
            j41 ()
          else none
      else none)))
set_option maxRecDepth 100000 in
set_option maxHeartbeats 4000000 in
theorem sp_120 {F Lo n : Nat} {a1 : Int32} {a2 : Int32} {a3 : Int32} {a4 : Int32} {c y : cS} {w : cW} {K : Int32 × cS → Prop} {Q : ((Option Value) ⊕ String) → List va_E → Prop} (hw : rOK fm w) (hF : 2 ≤ F) (hLo : 46 ≤ Lo)  (h : wp (d_120 n a1 a2 a3 a4 c) K) (hQ : ∀ r, K r → Q (.inl (some (.int r.1))) (hq false r.2 y w)) : rs (rt_P sc fm) 120 F Lo 0 [(0, .ref 174), (1, .int a1), (2, .int a2), (3, .int a3), (4, .int a4)] [] (hq false c y w) Q := by
  unfold d_120 at h
  obtain ⟨lv, elv⟩ : ∃ lv : rx_L, lv = [(0, .ref 174), (1, .int a1), (2, .int a2), (3, .int a3), (4, .int a4)] := ⟨_, rfl⟩
  rw [← elv]
  have l0 : rx_ld lv 0 = some (.ref 174) := by rw [elv]; rfl
  have l1 : rx_ld lv 1 = some (.int a1) := by rw [elv]; rfl
  have l2 : rx_ld lv 2 = some (.int a2) := by rw [elv]; rfl
  have l3 : rx_ld lv 3 = some (.int a3) := by rw [elv]; rfl
  have l4 : rx_ld lv 4 = some (.int a4) := by rw [elv]; rfl
  refine rs_aldn wi_120_0 l0 ?_
  refine rs_pure wi_120_1 rfl ?_
  refine rs_topi (v := 0) (by decide) ?_
  obtain ⟨c1, e2, h⟩ := wp_lt h
  refine dq_pi wi_120_2 wp_120_356 tf_174_0 rfl rfl e2 ?_
  refine rs_aldn wi_120_5 l0 ?_
  refine rs_ildn wi_120_6 l1 ?_
  refine rs_V wi_120_7 wc_120_724 rfl (dq_isa tf_174_0 wa_15_119) (Nat.le_trans (by decide) hF) (ml_le wm_119 (Nat.le_trans (by decide) hLo)) rfl (sp_119 hw (Nat.le_trans (by decide : 0 ≤ 2 - 1) (Nat.sub_le_sub_right hF 1)) (ml_sub wm_119 (Nat.le_trans (by decide : 0 ≤ 46 - 21) (Nat.sub_le_sub_right hLo 21))) (wp_bind h) (fun v3 h => rs_back1 ?_))
  refine wp_jn (B := fun p4 : Unit => ∀ lv, rs (rt_P sc fm) 120 F Lo 41 lv [] (hq false c1 y w) Q) h (fun p4 h lv => ?_) (fun j41 hj41 h => ?_)
  ·
    refine rs_pure wi_120_41 rfl ?_
    refine rs_topi (v := (-1)) (by decide) ?_
    exact rs_iret wi_120_42 wr_120 rfl (hQ ((-1), c1) h)
  refine rs_ifeq (tg := 41) wi_120_10 ⟨by decide, by decide⟩ (fun q => ?_) (fun q => ?_)
  ·
    have h := wp_pos h q
    exact hj41 _ h _
  ·
    have h := wp_neg h q
    refine rs_ildn wi_120_13 l2 ?_
    refine rs_iflt (tg := 41) wi_120_14 ⟨by decide, by decide⟩ (fun q => ?_) (fun q => ?_)
    ·
      have h := wp_pos h q
      exact hj41 _ h _
    ·
      have h := wp_neg h q
      refine rs_ildn wi_120_17 l2 ?_
      refine rs_aldn wi_120_18 l0 ?_
      refine dq_gr wi_120_19 wf_120_97 tf_174_17 ?_
      refine rs_ildn wi_120_22 l1 ?_
      obtain ⟨g5, h⟩ := wp_gd h
      refine dq_iald wi_120_23 t_182 g5 ?_
      refine rs_icge (tg := 41) wi_120_24 ⟨by decide, by decide⟩ (fun q => ?_) (fun q => ?_)
      ·
        have h := wp_pos h q
        exact hj41 _ h _
      ·
        have h := wp_neg h q
        refine rs_ildn wi_120_27 l3 ?_
        refine rs_iflt (tg := 41) wi_120_28 ⟨by decide, by decide⟩ (fun q => ?_) (fun q => ?_)
        ·
          have h := wp_pos h q
          exact hj41 _ h _
        ·
          have h := wp_neg h q
          refine rs_ildn wi_120_31 l3 ?_
          refine rs_aldn wi_120_32 l0 ?_
          refine dq_gr wi_120_33 wf_120_97 tf_174_17 ?_
          refine rs_ildn wi_120_36 l1 ?_
          obtain ⟨g6, h⟩ := wp_gd h
          refine dq_iald wi_120_37 t_182 g6 ?_
          refine rs_iclt (tg := 43) wi_120_38 ⟨by decide, by decide⟩ (fun q => ?_) (fun q => ?_)
          ·
            have h := wp_pos h q
            refine rs_ild wi_120_43 l4 ?_
            refine wp_jn (B := fun p7 : Int32 => ∀ lv, rs (rt_P sc fm) 120 F Lo 99 lv [.int p7] (hq false c1 y w) Q) h (fun p7 h lv => ?_) (fun j99 hj99 h => ?_)
            ·
              exact rs_iret wi_120_99 wr_120 rfl (hQ (p7, c1) h)
            refine rs_ifne (tg := 66) wi_120_45 ⟨by decide, by decide⟩ (fun q => ?_) (fun q => ?_)
            ·
              have h := wp_neg h q
              refine rs_ild wi_120_66 l4 ?_
              refine rs_pure wi_120_68 rfl ?_
              refine rs_topi (v := 1) (by decide) ?_
              refine rs_icne (tg := 82) wi_120_69 ⟨by decide, by decide⟩ (fun q => ?_) (fun q => ?_)
              ·
                have h := wp_neg h q
                refine rs_ild wi_120_82 l4 ?_
                refine rs_pure wi_120_84 rfl ?_
                refine rs_topi (v := 2) (by decide) ?_
                refine rs_icne (tg := 98) wi_120_85 ⟨by decide, by decide⟩ (fun q => ?_) (fun q => ?_)
                ·
                  have h := wp_neg h q
                  refine rs_pure wi_120_98 rfl ?_
                  refine rs_topi (v := (-1)) (by decide) ?_
                  exact hj99 _ h _
                ·
                  have h := wp_pos h q
                  refine rs_aldn wi_120_88 l0 ?_
                  refine rs_ildn wi_120_89 l1 ?_
                  refine rs_ildn wi_120_90 l2 ?_
                  refine rs_ildn wi_120_91 l3 ?_
                  refine rs_V wi_120_92 wc_120_730 rfl (dq_isa tf_174_0 wa_15_391) (Nat.le_trans (by decide) hF) (ml_le wm_391 (Nat.le_trans (by decide) hLo)) rfl (sp_391 hw (Nat.le_trans (by decide : 1 ≤ 2 - 1) (Nat.sub_le_sub_right hF 1)) (ml_sub wm_391 (Nat.le_trans (by decide : 23 ≤ 46 - 23) (Nat.sub_le_sub_right hLo 23))) (wp_bind h) (fun v8 h => rs_back1 ?_))
                  refine rs_goto (tg := 99) wi_120_95 ⟨by decide, by decide⟩ ?_
                  exact hj99 _ h _
              ·
                have h := wp_pos h q
                refine rs_aldn wi_120_72 l0 ?_
                refine rs_ildn wi_120_73 l1 ?_
                refine rs_ildn wi_120_74 l2 ?_
                refine rs_ildn wi_120_75 l3 ?_
                refine rs_V wi_120_76 wc_120_727 rfl (dq_isa tf_174_0 wa_15_390) (Nat.le_trans (by decide) hF) (ml_le wm_390 (Nat.le_trans (by decide) hLo)) rfl (sp_390 hw (Nat.le_trans (by decide : 1 ≤ 2 - 1) (Nat.sub_le_sub_right hF 1)) (ml_sub wm_390 (Nat.le_trans (by decide : 23 ≤ 46 - 23) (Nat.sub_le_sub_right hLo 23))) (wp_bind h) (fun v9 h => rs_back1 ?_))
                refine rs_goto (tg := 99) wi_120_79 ⟨by decide, by decide⟩ ?_
                exact hj99 _ h _
            ·
              have h := wp_pos h q
              refine rs_aldn wi_120_48 l0 ?_
              refine rs_ildn wi_120_49 l1 ?_
              refine rs_ildn wi_120_50 l2 ?_
              refine rs_ildn wi_120_51 l3 ?_
              refine rs_V wi_120_52 wc_120_535 rfl (dq_isa tf_174_0 wa_15_387) (Nat.le_trans (by decide) hF) (ml_le wm_387 (Nat.le_trans (by decide) hLo)) rfl (sp_387 hw (Nat.le_trans (by decide : 1 ≤ 2 - 1) (Nat.sub_le_sub_right hF 1)) (ml_sub wm_387 (Nat.le_trans (by decide : 23 ≤ 46 - 23) (Nat.sub_le_sub_right hLo 23))) (wp_bind h) (fun v10 h => rs_back1 ?_))
              refine rs_ifeq (tg := 62) wi_120_55 ⟨by decide, by decide⟩ (fun q => ?_) (fun q => ?_)
              ·
                have h := wp_pos h q
                refine rs_pure wi_120_62 rfl ?_
                refine rs_topi (v := 0) (by decide) ?_
                refine rs_goto (tg := 99) wi_120_63 ⟨by decide, by decide⟩ ?_
                exact hj99 _ h _
              ·
                have h := wp_neg h q
                refine rs_pure wi_120_58 rfl ?_
                refine rs_topi (v := 1) (by decide) ?_
                refine rs_goto (tg := 99) wi_120_59 ⟨by decide, by decide⟩ ?_
                exact hj99 _ h _
          ·
            have h := wp_neg h q
            exact hj41 _ h _
theorem tf_174_80 : fo false 174 15 80 (.int 0) := ⟨_, rfl, rfl, by decide, by decide⟩
theorem tf_174_81 : fo false 174 15 81 (.int 0) := ⟨_, rfl, rfl, by decide, by decide⟩
theorem tf_174_82 : fo false 174 15 82 (.int 0) := ⟨_, rfl, rfl, by decide, by decide⟩
theorem wf_433_733 : rx_ft (rt_P sc fm) 433 733 = some (15, 82) := (by decide +kernel : rt_ft 433 733 = some (15, 82))
theorem wf_433_736 : rx_ft (rt_P sc fm) 433 736 = some (15, 80) := (by decide +kernel : rt_ft 433 736 = some (15, 80))
theorem wf_433_739 : rx_ft (rt_P sc fm) 433 739 = some (15, 81) := (by decide +kernel : rt_ft 433 739 = some (15, 81))
theorem wf_433_9 : rx_ft (rt_P sc fm) 433 9 = some (15, 1) := (by decide +kernel : rt_ft 433 9 = some (15, 1))
theorem wi_433_0 : ri (rt_P sc fm) 433 0 (.aload_n 0) (1) := ri_of (by decide +kernel) rfl
theorem wi_433_1 : ri (rt_P sc fm) 433 1 (.getfield 733) (4) := ri_of (by decide +kernel) rfl
theorem wi_433_10 : ri (rt_P sc fm) 433 10 (.getfield 736) (13) := ri_of (by decide +kernel) rfl
theorem wi_433_13 : ri (rt_P sc fm) 433 13 (.aload_n 0) (14) := ri_of (by decide +kernel) rfl
theorem wi_433_14 : ri (rt_P sc fm) 433 14 (.getfield 739) (17) := ri_of (by decide +kernel) rfl
theorem wi_433_17 : ri (rt_P sc fm) 433 17 (.if_icmp .eq 29) (20) := ri_of (by decide +kernel) rfl
theorem wi_433_20 : ri (rt_P sc fm) 433 20 (.aload_n 0) (21) := ri_of (by decide +kernel) rfl
theorem wi_433_21 : ri (rt_P sc fm) 433 21 (.getfield 9) (24) := ri_of (by decide +kernel) rfl
theorem wi_433_24 : ri (rt_P sc fm) 433 24 (.aload_n 0) (25) := ri_of (by decide +kernel) rfl
theorem wi_433_25 : ri (rt_P sc fm) 433 25 (.getfield 736) (28) := ri_of (by decide +kernel) rfl
theorem wi_433_28 : ri (rt_P sc fm) 433 28 (.iaload) (29) := ri_of (by decide +kernel) rfl
theorem wi_433_29 : ri (rt_P sc fm) 433 29 (.iload_n 1) (30) := ri_of (by decide +kernel) rfl
theorem wi_433_30 : ri (rt_P sc fm) 433 30 (.if_icmp .lt 16) (33) := ri_of (by decide +kernel) rfl
theorem wi_433_33 : ri (rt_P sc fm) 433 33 (.aload_n 0) (34) := ri_of (by decide +kernel) rfl
theorem wi_433_34 : ri (rt_P sc fm) 433 34 (.getfield 9) (37) := ri_of (by decide +kernel) rfl
theorem wi_433_37 : ri (rt_P sc fm) 433 37 (.aload_n 0) (38) := ri_of (by decide +kernel) rfl
theorem wi_433_38 : ri (rt_P sc fm) 433 38 (.getfield 736) (41) := ri_of (by decide +kernel) rfl
theorem wi_433_4 : ri (rt_P sc fm) 433 4 (.ifCond .eq 5) (7) := ri_of (by decide +kernel) rfl
theorem wi_433_41 : ri (rt_P sc fm) 433 41 (.iaload) (42) := ri_of (by decide +kernel) rfl
theorem wi_433_42 : ri (rt_P sc fm) 433 42 (.iload_n 2) (43) := ri_of (by decide +kernel) rfl
theorem wi_433_43 : ri (rt_P sc fm) 433 43 (.if_icmp .le 10) (46) := ri_of (by decide +kernel) rfl
theorem wi_433_46 : ri (rt_P sc fm) 433 46 (.aload_n 0) (47) := ri_of (by decide +kernel) rfl
theorem wi_433_47 : ri (rt_P sc fm) 433 47 (.iconst 1) (48) := ri_of (by decide +kernel) rfl
theorem wi_433_48 : ri (rt_P sc fm) 433 48 (.putfield 733) (51) := ri_of (by decide +kernel) rfl
theorem wi_433_51 : ri (rt_P sc fm) 433 51 (.iconst 0) (52) := ri_of (by decide +kernel) rfl
theorem wi_433_52 : ri (rt_P sc fm) 433 52 (.ireturn) (53) := ri_of (by decide +kernel) rfl
theorem wi_433_53 : ri (rt_P sc fm) 433 53 (.aload_n 0) (54) := ri_of (by decide +kernel) rfl
theorem wi_433_54 : ri (rt_P sc fm) 433 54 (.dup) (55) := ri_of (by decide +kernel) rfl
theorem wi_433_55 : ri (rt_P sc fm) 433 55 (.getfield 736) (58) := ri_of (by decide +kernel) rfl
theorem wi_433_58 : ri (rt_P sc fm) 433 58 (.iconst 1) (59) := ri_of (by decide +kernel) rfl
theorem wi_433_59 : ri (rt_P sc fm) 433 59 (.iadd) (60) := ri_of (by decide +kernel) rfl
theorem wi_433_60 : ri (rt_P sc fm) 433 60 (.putfield 736) (63) := ri_of (by decide +kernel) rfl
theorem wi_433_63 : ri (rt_P sc fm) 433 63 (.aload_n 0) (64) := ri_of (by decide +kernel) rfl
theorem wi_433_64 : ri (rt_P sc fm) 433 64 (.getfield 9) (67) := ri_of (by decide +kernel) rfl
theorem wi_433_67 : ri (rt_P sc fm) 433 67 (.aload_n 0) (68) := ri_of (by decide +kernel) rfl
theorem wi_433_68 : ri (rt_P sc fm) 433 68 (.getfield 736) (71) := ri_of (by decide +kernel) rfl
theorem wi_433_7 : ri (rt_P sc fm) 433 7 (.iconst 0) (8) := ri_of (by decide +kernel) rfl
theorem wi_433_71 : ri (rt_P sc fm) 433 71 (.iconst 1) (72) := ri_of (by decide +kernel) rfl
theorem wi_433_72 : ri (rt_P sc fm) 433 72 (.isub) (73) := ri_of (by decide +kernel) rfl
theorem wi_433_73 : ri (rt_P sc fm) 433 73 (.iaload) (74) := ri_of (by decide +kernel) rfl
theorem wi_433_74 : ri (rt_P sc fm) 433 74 (.ireturn) (75) := ri_of (by decide +kernel) rfl
theorem wi_433_8 : ri (rt_P sc fm) 433 8 (.ireturn) (9) := ri_of (by decide +kernel) rfl
theorem wi_433_9 : ri (rt_P sc fm) 433 9 (.aload_n 0) (10) := ri_of (by decide +kernel) rfl
theorem wp_433_733 : rx_pt (rt_P sc fm) 433 733 = some (15, 82, .boolean) := (by decide +kernel : rt_pt 433 733 = some (15, 82, .boolean))
theorem wp_433_736 : rx_pt (rt_P sc fm) 433 736 = some (15, 80, .int) := (by decide +kernel : rt_pt 433 736 = some (15, 80, .int))
theorem wr_433 : rx_rt (rt_P sc fm) 433 = (some FieldType.int) := (by decide +kernel : rt_rt 433 = (some FieldType.int))
/-- MarkHouseModel.byteHere(II)I -/
def d_433 (n : Nat) (a1 : Int32) (a2 : Int32) (c : cS) : Option (Int32 × cS) :=
  if (c.1 174 82) = 0 then
    jn (fun p1 : Unit =>
      lt (pI c 174 82 1) (fun c2 =>
      some (0, c2)))
    (fun j46 =>
    if (c.1 174 80) = (c.1 174 81) then
      j46 ()
    else
      if ib (c.1 174 80) 4000 then
      if (c.1 175 (ix (c.1 174 80))) < a1 then
        j46 ()
      else
        if ib (c.1 174 80) 4000 then
        if (c.1 175 (ix (c.1 174 80))) ≤ a2 then
          lt (pI c 174 80 ((c.1 174 80) + 1)) (fun c6 =>
          if ib ((c6.1 174 80) - 1) 4000 then
          some ((c6.1 175 (ix ((c6.1 174 80) - 1))), c6)
          else none)
        else
          j46 ()
        else none
      else none)
  else
    some (0, c)
set_option maxRecDepth 100000 in
set_option maxHeartbeats 4000000 in
theorem sp_433 {F Lo n : Nat} {a1 : Int32} {a2 : Int32} {c y : cS} {w : cW} {K : Int32 × cS → Prop} {Q : ((Option Value) ⊕ String) → List va_E → Prop} (hw : rOK fm w) (hF : 0 ≤ F) (hLo : 0 ≤ Lo)  (h : wp (d_433 n a1 a2 c) K) (hQ : ∀ r, K r → Q (.inl (some (.int r.1))) (hq false r.2 y w)) : rs (rt_P sc fm) 433 F Lo 0 [(0, .ref 174), (1, .int a1), (2, .int a2)] [] (hq false c y w) Q := by
  unfold d_433 at h
  obtain ⟨lv, elv⟩ : ∃ lv : rx_L, lv = [(0, .ref 174), (1, .int a1), (2, .int a2)] := ⟨_, rfl⟩
  rw [← elv]
  have l0 : rx_ld lv 0 = some (.ref 174) := by rw [elv]; rfl
  have l1 : rx_ld lv 1 = some (.int a1) := by rw [elv]; rfl
  have l2 : rx_ld lv 2 = some (.int a2) := by rw [elv]; rfl
  refine rs_aldn wi_433_0 l0 ?_
  refine dq_gi wi_433_1 wf_433_733 tf_174_82 ?_
  refine rs_ifeq (tg := 9) wi_433_4 ⟨by decide, by decide⟩ (fun q => ?_) (fun q => ?_)
  ·
    have h := wp_pos h q
    refine rs_aldn wi_433_9 l0 ?_
    refine dq_gi wi_433_10 wf_433_736 tf_174_80 ?_
    refine rs_aldn wi_433_13 l0 ?_
    refine dq_gi wi_433_14 wf_433_739 tf_174_81 ?_
    refine wp_jn (B := fun p1 : Unit => ∀ lv, rx_ld lv 0 = some (.ref 174) → rs (rt_P sc fm) 433 F Lo 46 lv [] (hq false c y w) Q) h (fun p1 h lv l0 => ?_) (fun j46 hj46 h => ?_)
    ·
      refine rs_aldn wi_433_46 l0 ?_
      refine rs_pure wi_433_47 rfl ?_
      refine rs_topi (v := 1) (by decide) ?_
      obtain ⟨c2, e3, h⟩ := wp_lt h
      refine dq_pi wi_433_48 wp_433_733 tf_174_82 (nb_n (by decide)) (nb_f (by decide)) e3 ?_
      refine rs_pure wi_433_51 rfl ?_
      refine rs_topi (v := 0) (by decide) ?_
      exact rs_iret wi_433_52 wr_433 rfl (hQ (0, c2) h)
    refine rs_iceq (tg := 46) wi_433_17 ⟨by decide, by decide⟩ (fun q => ?_) (fun q => ?_)
    ·
      have h := wp_pos h q
      exact hj46 _ h _ l0
    ·
      have h := wp_neg h q
      refine rs_aldn wi_433_20 l0 ?_
      refine dq_gr wi_433_21 wf_433_9 tf_174_1 ?_
      refine rs_aldn wi_433_24 l0 ?_
      refine dq_gi wi_433_25 wf_433_736 tf_174_80 ?_
      obtain ⟨g4, h⟩ := wp_gd h
      refine dq_iald wi_433_28 t_175 g4 ?_
      refine rs_ildn wi_433_29 l1 ?_
      refine rs_iclt (tg := 46) wi_433_30 ⟨by decide, by decide⟩ (fun q => ?_) (fun q => ?_)
      ·
        have h := wp_pos h q
        exact hj46 _ h _ l0
      ·
        have h := wp_neg h q
        refine rs_aldn wi_433_33 l0 ?_
        refine dq_gr wi_433_34 wf_433_9 tf_174_1 ?_
        refine rs_aldn wi_433_37 l0 ?_
        refine dq_gi wi_433_38 wf_433_736 tf_174_80 ?_
        obtain ⟨g5, h⟩ := wp_gd h
        refine dq_iald wi_433_41 t_175 g5 ?_
        refine rs_ildn wi_433_42 l2 ?_
        refine rs_icle (tg := 53) wi_433_43 ⟨by decide, by decide⟩ (fun q => ?_) (fun q => ?_)
        ·
          have h := wp_pos h q
          refine rs_aldn wi_433_53 l0 ?_
          refine rs_pure wi_433_54 rfl ?_
          refine dq_gi wi_433_55 wf_433_736 tf_174_80 ?_
          refine rs_pure wi_433_58 rfl ?_
          refine rs_topi (v := 1) (by decide) ?_
          refine rs_pure wi_433_59 rfl ?_
          obtain ⟨c6, e7, h⟩ := wp_lt h
          refine dq_pi wi_433_60 wp_433_736 tf_174_80 rfl rfl e7 ?_
          refine rs_aldn wi_433_63 l0 ?_
          refine dq_gr wi_433_64 wf_433_9 tf_174_1 ?_
          refine rs_aldn wi_433_67 l0 ?_
          refine dq_gi wi_433_68 wf_433_736 tf_174_80 ?_
          refine rs_pure wi_433_71 rfl ?_
          refine rs_topi (v := 1) (by decide) ?_
          refine rs_pure wi_433_72 rfl ?_
          obtain ⟨g8, h⟩ := wp_gd h
          refine dq_iald wi_433_73 t_175 g8 ?_
          exact rs_iret wi_433_74 wr_433 rfl (hQ ((c6.1 175 (ix ((c6.1 174 80) - 1))), c6) h)
        ·
          have h := wp_neg h q
          exact hj46 _ h _ l0
  ·
    have h := wp_neg h q
    refine rs_pure wi_433_7 rfl ?_
    refine rs_topi (v := 0) (by decide) ?_
    exact rs_iret wi_433_8 wr_433 rfl (hQ (0, c) h)
theorem wa_15_433 : rz_cn 15 (rx_yn (rt_P sc fm) 433).cls = true := (by decide +kernel : rz_cn 15 (rt_yn 433).cls = true)
theorem wc_434_425 : rx_ct (rt_P sc fm) 434 425 = some (1, 367, 1) := (by decide +kernel : rt_ct 434 425 = some (1, 367, 1))
theorem wc_434_429 : rx_ct (rt_P sc fm) 434 429 = some (1, 368, 1) := (by decide +kernel : rt_ct 434 429 = some (1, 368, 1))
theorem wc_434_742 : rx_ct (rt_P sc fm) 434 742 = some (0, 433, 2) := (by decide +kernel : rt_ct 434 742 = some (0, 433, 2))
theorem wf_434_733 : rx_ft (rt_P sc fm) 434 733 = some (15, 82) := (by decide +kernel : rt_ft 434 733 = some (15, 82))
theorem wf_434_736 : rx_ft (rt_P sc fm) 434 736 = some (15, 80) := (by decide +kernel : rt_ft 434 736 = some (15, 80))
theorem wi_434_0 : ri (rt_P sc fm) 434 0 (.aload_n 0) (1) := ri_of (by decide +kernel) rfl
theorem wi_434_1 : ri (rt_P sc fm) 434 1 (.iconst 1) (2) := ri_of (by decide +kernel) rfl
theorem wi_434_10 : ri (rt_P sc fm) 434 10 (.iconst 0) (11) := ri_of (by decide +kernel) rfl
theorem wi_434_11 : ri (rt_P sc fm) 434 11 (.istore 4) (13) := ri_of (by decide +kernel) rfl
theorem wi_434_13 : ri (rt_P sc fm) 434 13 (.iload 4) (15) := ri_of (by decide +kernel) rfl
theorem wi_434_15 : ri (rt_P sc fm) 434 15 (.iload_n 1) (16) := ri_of (by decide +kernel) rfl
theorem wi_434_16 : ri (rt_P sc fm) 434 16 (.if_icmp .ge 78) (19) := ri_of (by decide +kernel) rfl
theorem wi_434_19 : ri (rt_P sc fm) 434 19 (.aload_n 0) (20) := ri_of (by decide +kernel) rfl
theorem wi_434_2 : ri (rt_P sc fm) 434 2 (.bipush 8) (4) := ri_of (by decide +kernel) rfl
theorem wi_434_20 : ri (rt_P sc fm) 434 20 (.getfield 733) (23) := ri_of (by decide +kernel) rfl
theorem wi_434_23 : ri (rt_P sc fm) 434 23 (.ifCond .ne 71) (26) := ri_of (by decide +kernel) rfl
theorem wi_434_26 : ri (rt_P sc fm) 434 26 (.aload_n 0) (27) := ri_of (by decide +kernel) rfl
theorem wi_434_27 : ri (rt_P sc fm) 434 27 (.iconst 0) (28) := ri_of (by decide +kernel) rfl
theorem wi_434_28 : ri (rt_P sc fm) 434 28 (.sipush 255) (31) := ri_of (by decide +kernel) rfl
theorem wi_434_31 : ri (rt_P sc fm) 434 31 (.invokevirtual 742) (34) := ri_of (by decide +kernel) rfl
theorem wi_434_34 : ri (rt_P sc fm) 434 34 (.istore 5) (36) := ri_of (by decide +kernel) rfl
theorem wi_434_36 : ri (rt_P sc fm) 434 36 (.aload_n 0) (37) := ri_of (by decide +kernel) rfl
theorem wi_434_37 : ri (rt_P sc fm) 434 37 (.getfield 733) (40) := ri_of (by decide +kernel) rfl
theorem wi_434_4 : ri (rt_P sc fm) 434 4 (.invokevirtual 742) (7) := ri_of (by decide +kernel) rfl
theorem wi_434_40 : ri (rt_P sc fm) 434 40 (.ifCond .ne 39) (43) := ri_of (by decide +kernel) rfl
theorem wi_434_43 : ri (rt_P sc fm) 434 43 (.iload 5) (45) := ri_of (by decide +kernel) rfl
theorem wi_434_45 : ri (rt_P sc fm) 434 45 (.invokestatic 425) (48) := ri_of (by decide +kernel) rfl
theorem wi_434_48 : ri (rt_P sc fm) 434 48 (.ifCond .ne 31) (51) := ri_of (by decide +kernel) rfl
theorem wi_434_51 : ri (rt_P sc fm) 434 51 (.iload 4) (53) := ri_of (by decide +kernel) rfl
theorem wi_434_53 : ri (rt_P sc fm) 434 53 (.ifCond .eq 11) (56) := ri_of (by decide +kernel) rfl
theorem wi_434_56 : ri (rt_P sc fm) 434 56 (.iload 5) (58) := ri_of (by decide +kernel) rfl
theorem wi_434_58 : ri (rt_P sc fm) 434 58 (.invokestatic 429) (61) := ri_of (by decide +kernel) rfl
theorem wi_434_61 : ri (rt_P sc fm) 434 61 (.ifCond .ne 18) (64) := ri_of (by decide +kernel) rfl
theorem wi_434_64 : ri (rt_P sc fm) 434 64 (.aload_n 0) (65) := ri_of (by decide +kernel) rfl
theorem wi_434_65 : ri (rt_P sc fm) 434 65 (.iconst 1) (66) := ri_of (by decide +kernel) rfl
theorem wi_434_66 : ri (rt_P sc fm) 434 66 (.putfield 733) (69) := ri_of (by decide +kernel) rfl
theorem wi_434_69 : ri (rt_P sc fm) 434 69 (.aload_n 0) (70) := ri_of (by decide +kernel) rfl
theorem wi_434_7 : ri (rt_P sc fm) 434 7 (.istore_n 1) (8) := ri_of (by decide +kernel) rfl
theorem wi_434_70 : ri (rt_P sc fm) 434 70 (.dup) (71) := ri_of (by decide +kernel) rfl
theorem wi_434_71 : ri (rt_P sc fm) 434 71 (.getfield 736) (74) := ri_of (by decide +kernel) rfl
theorem wi_434_74 : ri (rt_P sc fm) 434 74 (.iconst 1) (75) := ri_of (by decide +kernel) rfl
theorem wi_434_75 : ri (rt_P sc fm) 434 75 (.isub) (76) := ri_of (by decide +kernel) rfl
theorem wi_434_76 : ri (rt_P sc fm) 434 76 (.putfield 736) (79) := ri_of (by decide +kernel) rfl
theorem wi_434_79 : ri (rt_P sc fm) 434 79 (.lload_n 2) (80) := ri_of (by decide +kernel) rfl
theorem wi_434_8 : ri (rt_P sc fm) 434 8 (.lconst 0) (9) := ri_of (by decide +kernel) rfl
theorem wi_434_80 : ri (rt_P sc fm) 434 80 (.bipush 8) (82) := ri_of (by decide +kernel) rfl
theorem wi_434_82 : ri (rt_P sc fm) 434 82 (.lshl) (83) := ri_of (by decide +kernel) rfl
theorem wi_434_83 : ri (rt_P sc fm) 434 83 (.iload 5) (85) := ri_of (by decide +kernel) rfl
theorem wi_434_85 : ri (rt_P sc fm) 434 85 (.i2l) (86) := ri_of (by decide +kernel) rfl
theorem wi_434_86 : ri (rt_P sc fm) 434 86 (.lor) (87) := ri_of (by decide +kernel) rfl
theorem wi_434_87 : ri (rt_P sc fm) 434 87 (.lstore_n 2) (88) := ri_of (by decide +kernel) rfl
theorem wi_434_88 : ri (rt_P sc fm) 434 88 (.iinc 4 1) (91) := ri_of (by decide +kernel) rfl
theorem wi_434_9 : ri (rt_P sc fm) 434 9 (.lstore_n 2) (10) := ri_of (by decide +kernel) rfl
theorem wi_434_91 : ri (rt_P sc fm) 434 91 (.goto (-78)) (94) := ri_of (by decide +kernel) rfl
theorem wi_434_94 : ri (rt_P sc fm) 434 94 (.lload_n 2) (95) := ri_of (by decide +kernel) rfl
theorem wi_434_95 : ri (rt_P sc fm) 434 95 (.lreturn) (96) := ri_of (by decide +kernel) rfl
theorem wm_433 : rx_ml (rt_P sc fm) 433 = 3 := (by decide +kernel : rt_ml 433 = 3)
theorem wp_434_733 : rx_pt (rt_P sc fm) 434 733 = some (15, 82, .boolean) := (by decide +kernel : rt_pt 434 733 = some (15, 82, .boolean))
theorem wp_434_736 : rx_pt (rt_P sc fm) 434 736 = some (15, 80, .int) := (by decide +kernel : rt_pt 434 736 = some (15, 80, .int))
theorem wr_434 : rx_rt (rt_P sc fm) 434 = (some FieldType.long) := (by decide +kernel : rt_rt 434 = (some FieldType.long))
/-- MarkHouseModel.fileName()J -/
def d_434 (n : Nat)  (c : cS) : Option (Int64 × cS) :=
  Option.bind (d_433 n 1 8 c) (fun r1 =>
  Option.bind (whl (R := (Int64 × cS)) (fun s5 : Int64 × Int32 × cS =>
    if r1.1 ≤ s5.2.1 then
      some (.inr (s5.1, s5.2.2))
    else
      if (s5.2.2.1 174 82) = 0 then
        Option.bind (d_433 n 0 255 s5.2.2) (fun r6 =>
        jn (fun p8 : cS =>
          lt (((s5.1 <<< ((8 : Int32).toInt64 &&& 63)) ||| (r6.1 : Int32).toInt64) : Int64) (fun v10 =>
          lt (s5.2.1 + 1 : Int32) (fun v13 =>
          some (.inl (v10, v13, p8)))))
        (fun j79 =>
        if (r6.2.1 174 82) = 0 then
          Option.bind (d_367 n r6.1) (fun v15 =>
          if v15 = 0 then
            jn (fun p16 : Unit =>
              lt (pI r6.2 174 82 1) (fun c17 =>
              lt (pI c17 174 80 ((c17.1 174 80) - 1)) (fun c19 =>
              j79 c19)))
            (fun j64 =>
            if s5.2.1 = 0 then
              j64 ()
            else
              Option.bind (d_368 n r6.1) (fun v21 =>
              if v21 = 0 then
                j64 ()
              else
                j79 r6.2))
          else
            j79 r6.2)
        else
          j79 r6.2))
      else
        some (.inr (s5.1, s5.2.2))) n (0, 0, r1.2))
  (fun x22 : Int64 × cS =>
    some (x22.1, x22.2)))
set_option maxRecDepth 100000 in
set_option maxHeartbeats 4000000 in
theorem sp_434 {F Lo n : Nat}  {c y : cS} {w : cW} {K : Int64 × cS → Prop} {Q : ((Option Value) ⊕ String) → List va_E → Prop} (hw : rOK fm w) (hF : 1 ≤ F) (hLo : 22 ≤ Lo)  (h : wp (d_434 n  c) K) (hQ : ∀ r, K r → Q (.inl (some (.long r.1))) (hq false r.2 y w)) : rs (rt_P sc fm) 434 F Lo 0 [(0, .ref 174)] [] (hq false c y w) Q := by
  unfold d_434 at h
  obtain ⟨lv, elv⟩ : ∃ lv : rx_L, lv = [(0, .ref 174)] := ⟨_, rfl⟩
  rw [← elv]
  have l0 : rx_ld lv 0 = some (.ref 174) := by rw [elv]; rfl
  refine rs_aldn wi_434_0 l0 ?_
  refine rs_pure wi_434_1 rfl ?_
  refine rs_topi (v := 1) (by decide) ?_
  refine rs_pure wi_434_2 rfl ?_
  refine rs_topi (v := 8) (by decide) ?_
  refine rs_V wi_434_4 wc_434_742 rfl (dq_isa tf_174_0 wa_15_433) (Nat.le_trans (by decide) hF) (ml_le wm_433 (Nat.le_trans (by decide) hLo)) rfl (sp_433 hw (Nat.le_trans (by decide : 0 ≤ 1 - 1) (Nat.sub_le_sub_right hF 1)) (ml_sub wm_433 (Nat.le_trans (by decide : 0 ≤ 22 - 22) (Nat.sub_le_sub_right hLo 22))) (wp_bind h) (fun r1 h => rs_back1 ?_))
  refine dl_istn wi_434_7 rfl (fun lv l1 t2 => ?_)
  have l0 := t2 _ _ (by decide) (Or.inl rfl) l0
  refine rs_pure wi_434_8 rfl ?_
  refine rs_topl (v := 0) (by decide) ?_
  refine dl_lstn wi_434_9 rfl (fun lv l2 t3 => ?_)
  have l0 := t3 _ _ (by decide) (by decide) (Or.inl rfl) l0
  have l1 := t3 _ _ (by decide) (by decide) (Or.inl rfl) l1
  refine rs_pure wi_434_10 rfl ?_
  refine rs_topi (v := 0) (by decide) ?_
  refine dl_ist wi_434_11 rfl (fun lv l4 t4 => ?_)
  have l0 := t4 _ _ (by decide) (Or.inl rfl) l0
  have l1 := t4 _ _ (by decide) (Or.inl rfl) l1
  have l2 := t4 _ _ (by decide) (Or.inr (by decide)) l2
  refine whl_ex (A := fun s5 : Int64 × Int32 × cS => ∀ lv, rx_ld lv 0 = some (.ref 174) → rx_ld lv 1 = some (.int r1.1) → rx_ld lv 2 = some (.long s5.1) → rx_ld lv 4 = some (.int s5.2.1) → rs (rt_P sc fm) 434 F Lo 13 lv [] (hq false s5.2.2 y w) Q) (B := (fun x22 : Int64 × cS => ∀ lv, rx_ld lv 2 = some (.long x22.1) → rs (rt_P sc fm) 434 F Lo 94 lv [] (hq false x22.2 y w) Q)) ?_ ?_ _ _ (wp_bind h) _ l0 l1 l2 l4
  · intro s5 h lv l0 l1 l2 l4
    refine rs_ild wi_434_13 l4 ?_
    refine rs_ildn wi_434_15 l1 ?_
    refine rs_icge (tg := 94) wi_434_16 ⟨by decide, by decide⟩ (fun q => ?_) (fun q => ?_)
    ·
      have h := wp_pos h q
      exact h _ l2
    ·
      have h := wp_neg h q
      refine rs_aldn wi_434_19 l0 ?_
      refine dq_gi wi_434_20 wf_434_733 tf_174_82 ?_
      refine rs_ifne (tg := 94) wi_434_23 ⟨by decide, by decide⟩ (fun q => ?_) (fun q => ?_)
      ·
        have h := wp_neg h q
        exact h _ l2
      ·
        have h := wp_pos h q
        refine rs_aldn wi_434_26 l0 ?_
        refine rs_pure wi_434_27 rfl ?_
        refine rs_topi (v := 0) (by decide) ?_
        refine rs_pure wi_434_28 rfl ?_
        refine rs_topi (v := 255) (by decide) ?_
        refine rs_V wi_434_31 wc_434_742 rfl (dq_isa tf_174_0 wa_15_433) (Nat.le_trans (by decide) hF) (ml_le wm_433 (Nat.le_trans (by decide) hLo)) rfl (sp_433 hw (Nat.le_trans (by decide : 0 ≤ 1 - 1) (Nat.sub_le_sub_right hF 1)) (ml_sub wm_433 (Nat.le_trans (by decide : 0 ≤ 22 - 22) (Nat.sub_le_sub_right hLo 22))) (wp_bind h) (fun r6 h => rs_back1 ?_))
        refine dl_ist wi_434_34 rfl (fun lv l5 t7 => ?_)
        have l0 := t7 _ _ (by decide) (Or.inl rfl) l0
        have l1 := t7 _ _ (by decide) (Or.inl rfl) l1
        have l2 := t7 _ _ (by decide) (Or.inr (by decide)) l2
        have l4 := t7 _ _ (by decide) (Or.inl rfl) l4
        refine rs_aldn wi_434_36 l0 ?_
        refine dq_gi wi_434_37 wf_434_733 tf_174_82 ?_
        refine wp_jn (B := fun p8 : cS => ∀ lv, rx_ld lv 0 = some (.ref 174) → rx_ld lv 1 = some (.int r1.1) → rx_ld lv 2 = some (.long s5.1) → rx_ld lv 4 = some (.int s5.2.1) → rx_ld lv 5 = some (.int r6.1) → rs (rt_P sc fm) 434 F Lo 79 lv [] (hq false p8 y w) Q) h (fun p8 h lv l0 l1 l2 l4 l5 => ?_) (fun j79 hj79 h => ?_)
        ·
          refine rs_lldn wi_434_79 l2 ?_
          refine rs_pure wi_434_80 rfl ?_
          refine rs_topi (v := 8) (by decide) ?_
          refine rs_pure wi_434_82 rfl ?_
          refine rs_ild wi_434_83 l5 ?_
          refine rs_pure wi_434_85 rfl ?_
          refine rs_pure wi_434_86 rfl ?_
          obtain ⟨v10, e11, h⟩ := wp_lt h
          refine rs_topl e11 ?_
          refine dl_lstn wi_434_87 rfl (fun lv l2 t9 => ?_)
          have l0 := t9 _ _ (by decide) (by decide) (Or.inl rfl) l0
          have l1 := t9 _ _ (by decide) (by decide) (Or.inl rfl) l1
          have l4 := t9 _ _ (by decide) (by decide) (Or.inl rfl) l4
          obtain ⟨v13, e14, h⟩ := wp_lt h
          refine dl_inc wi_434_88 l4 rfl e14 (fun lv l4 t12 => ?_)
          have l0 := t12 _ _ (by decide) (Or.inl rfl) l0
          have l1 := t12 _ _ (by decide) (Or.inl rfl) l1
          have l2 := t12 _ _ (by decide) (Or.inr (by decide)) l2
          refine rs_goto (tg := 13) wi_434_91 ⟨by decide, by decide⟩ ?_
          exact h _ l0 l1 l2 l4
        refine rs_ifne (tg := 79) wi_434_40 ⟨by decide, by decide⟩ (fun q => ?_) (fun q => ?_)
        ·
          have h := wp_neg h q
          exact hj79 _ h _ l0 l1 l2 l4 l5
        ·
          have h := wp_pos h q
          refine rs_ild wi_434_43 l5 ?_
          refine rs_S wi_434_45 wc_434_425 (Or.inl rfl) rfl (Nat.le_trans (by decide) hF) (ml_le wm_367 (Nat.le_trans (by decide) hLo)) rfl (sp_367 (Nat.le_trans (by decide : 0 ≤ 1 - 1) (Nat.sub_le_sub_right hF 1)) (ml_sub wm_367 (Nat.le_trans (by decide : 0 ≤ 22 - 20) (Nat.sub_le_sub_right hLo 20))) (wp_bind h) (fun v15 h => rs_back1 ?_))
          refine rs_ifne (tg := 79) wi_434_48 ⟨by decide, by decide⟩ (fun q => ?_) (fun q => ?_)
          ·
            have h := wp_neg h q
            exact hj79 _ h _ l0 l1 l2 l4 l5
          ·
            have h := wp_pos h q
            refine rs_ild wi_434_51 l4 ?_
            refine wp_jn (B := fun p16 : Unit => ∀ lv, rx_ld lv 0 = some (.ref 174) → rx_ld lv 1 = some (.int r1.1) → rx_ld lv 2 = some (.long s5.1) → rx_ld lv 4 = some (.int s5.2.1) → rx_ld lv 5 = some (.int r6.1) → rs (rt_P sc fm) 434 F Lo 64 lv [] (hq false r6.2 y w) Q) h (fun p16 h lv l0 l1 l2 l4 l5 => ?_) (fun j64 hj64 h => ?_)
            ·
              refine rs_aldn wi_434_64 l0 ?_
              refine rs_pure wi_434_65 rfl ?_
              refine rs_topi (v := 1) (by decide) ?_
              obtain ⟨c17, e18, h⟩ := wp_lt h
              refine dq_pi wi_434_66 wp_434_733 tf_174_82 (nb_n (by decide)) (nb_f (by decide)) e18 ?_
              refine rs_aldn wi_434_69 l0 ?_
              refine rs_pure wi_434_70 rfl ?_
              refine dq_gi wi_434_71 wf_434_736 tf_174_80 ?_
              refine rs_pure wi_434_74 rfl ?_
              refine rs_topi (v := 1) (by decide) ?_
              refine rs_pure wi_434_75 rfl ?_
              obtain ⟨c19, e20, h⟩ := wp_lt h
              refine dq_pi wi_434_76 wp_434_736 tf_174_80 rfl rfl e20 ?_
              exact hj79 _ h _ l0 l1 l2 l4 l5
            refine rs_ifeq (tg := 64) wi_434_53 ⟨by decide, by decide⟩ (fun q => ?_) (fun q => ?_)
            ·
              have h := wp_pos h q
              exact hj64 _ h _ l0 l1 l2 l4 l5
            ·
              have h := wp_neg h q
              refine rs_ild wi_434_56 l5 ?_
              refine rs_S wi_434_58 wc_434_429 (Or.inl rfl) rfl (Nat.le_trans (by decide) hF) (ml_le wm_368 (Nat.le_trans (by decide) hLo)) rfl (sp_368 (Nat.le_trans (by decide : 0 ≤ 1 - 1) (Nat.sub_le_sub_right hF 1)) (ml_sub wm_368 (Nat.le_trans (by decide : 0 ≤ 22 - 20) (Nat.sub_le_sub_right hLo 20))) (wp_bind h) (fun v21 h => rs_back1 ?_))
              refine rs_ifne (tg := 79) wi_434_61 ⟨by decide, by decide⟩ (fun q => ?_) (fun q => ?_)
              ·
                have h := wp_neg h q
                exact hj79 _ h _ l0 l1 l2 l4 l5
              ·
                have h := wp_pos h q
                exact hj64 _ h _ l0 l1 l2 l4 l5
  ·
    intro x22 h lv l2
    refine rs_lldn wi_434_94 l2 ?_
    exact rs_lret wi_434_95 wr_434 (hQ (x22.1, x22.2) h)
theorem wc_435_742 : rx_ct (rt_P sc fm) 435 742 = some (0, 433, 2) := (by decide +kernel : rt_ct 435 742 = some (0, 433, 2))
theorem wf_435_733 : rx_ft (rt_P sc fm) 435 733 = some (15, 82) := (by decide +kernel : rt_ft 435 733 = some (15, 82))
theorem wf_435_736 : rx_ft (rt_P sc fm) 435 736 = some (15, 80) := (by decide +kernel : rt_ft 435 736 = some (15, 80))
theorem wi_435_0 : ri (rt_P sc fm) 435 0 (.aload_n 0) (1) := ri_of (by decide +kernel) rfl
theorem wi_435_1 : ri (rt_P sc fm) 435 1 (.iconst 0) (2) := ri_of (by decide +kernel) rfl
theorem wi_435_10 : ri (rt_P sc fm) 435 10 (.iconst 0) (11) := ri_of (by decide +kernel) rfl
theorem wi_435_11 : ri (rt_P sc fm) 435 11 (.istore 4) (13) := ri_of (by decide +kernel) rfl
theorem wi_435_13 : ri (rt_P sc fm) 435 13 (.iload 4) (15) := ri_of (by decide +kernel) rfl
theorem wi_435_15 : ri (rt_P sc fm) 435 15 (.iload_n 1) (16) := ri_of (by decide +kernel) rfl
theorem wi_435_16 : ri (rt_P sc fm) 435 16 (.if_icmp .ge 64) (19) := ri_of (by decide +kernel) rfl
theorem wi_435_19 : ri (rt_P sc fm) 435 19 (.aload_n 0) (20) := ri_of (by decide +kernel) rfl
theorem wi_435_2 : ri (rt_P sc fm) 435 2 (.bipush 8) (4) := ri_of (by decide +kernel) rfl
theorem wi_435_20 : ri (rt_P sc fm) 435 20 (.getfield 733) (23) := ri_of (by decide +kernel) rfl
theorem wi_435_23 : ri (rt_P sc fm) 435 23 (.ifCond .ne 57) (26) := ri_of (by decide +kernel) rfl
theorem wi_435_26 : ri (rt_P sc fm) 435 26 (.aload_n 0) (27) := ri_of (by decide +kernel) rfl
theorem wi_435_27 : ri (rt_P sc fm) 435 27 (.bipush 32) (29) := ri_of (by decide +kernel) rfl
theorem wi_435_29 : ri (rt_P sc fm) 435 29 (.bipush 126) (31) := ri_of (by decide +kernel) rfl
theorem wi_435_31 : ri (rt_P sc fm) 435 31 (.invokevirtual 742) (34) := ri_of (by decide +kernel) rfl
theorem wi_435_34 : ri (rt_P sc fm) 435 34 (.istore 5) (36) := ri_of (by decide +kernel) rfl
theorem wi_435_36 : ri (rt_P sc fm) 435 36 (.aload_n 0) (37) := ri_of (by decide +kernel) rfl
theorem wi_435_37 : ri (rt_P sc fm) 435 37 (.getfield 733) (40) := ri_of (by decide +kernel) rfl
theorem wi_435_4 : ri (rt_P sc fm) 435 4 (.invokevirtual 742) (7) := ri_of (by decide +kernel) rfl
theorem wi_435_40 : ri (rt_P sc fm) 435 40 (.ifCond .ne 25) (43) := ri_of (by decide +kernel) rfl
theorem wi_435_43 : ri (rt_P sc fm) 435 43 (.iload 5) (45) := ri_of (by decide +kernel) rfl
theorem wi_435_45 : ri (rt_P sc fm) 435 45 (.bipush 39) (47) := ri_of (by decide +kernel) rfl
theorem wi_435_47 : ri (rt_P sc fm) 435 47 (.if_icmp .ne 18) (50) := ri_of (by decide +kernel) rfl
theorem wi_435_50 : ri (rt_P sc fm) 435 50 (.aload_n 0) (51) := ri_of (by decide +kernel) rfl
theorem wi_435_51 : ri (rt_P sc fm) 435 51 (.iconst 1) (52) := ri_of (by decide +kernel) rfl
theorem wi_435_52 : ri (rt_P sc fm) 435 52 (.putfield 733) (55) := ri_of (by decide +kernel) rfl
theorem wi_435_55 : ri (rt_P sc fm) 435 55 (.aload_n 0) (56) := ri_of (by decide +kernel) rfl
theorem wi_435_56 : ri (rt_P sc fm) 435 56 (.dup) (57) := ri_of (by decide +kernel) rfl
theorem wi_435_57 : ri (rt_P sc fm) 435 57 (.getfield 736) (60) := ri_of (by decide +kernel) rfl
theorem wi_435_60 : ri (rt_P sc fm) 435 60 (.iconst 1) (61) := ri_of (by decide +kernel) rfl
theorem wi_435_61 : ri (rt_P sc fm) 435 61 (.isub) (62) := ri_of (by decide +kernel) rfl
theorem wi_435_62 : ri (rt_P sc fm) 435 62 (.putfield 736) (65) := ri_of (by decide +kernel) rfl
theorem wi_435_65 : ri (rt_P sc fm) 435 65 (.lload_n 2) (66) := ri_of (by decide +kernel) rfl
theorem wi_435_66 : ri (rt_P sc fm) 435 66 (.bipush 8) (68) := ri_of (by decide +kernel) rfl
theorem wi_435_68 : ri (rt_P sc fm) 435 68 (.lshl) (69) := ri_of (by decide +kernel) rfl
theorem wi_435_69 : ri (rt_P sc fm) 435 69 (.iload 5) (71) := ri_of (by decide +kernel) rfl
theorem wi_435_7 : ri (rt_P sc fm) 435 7 (.istore_n 1) (8) := ri_of (by decide +kernel) rfl
theorem wi_435_71 : ri (rt_P sc fm) 435 71 (.i2l) (72) := ri_of (by decide +kernel) rfl
theorem wi_435_72 : ri (rt_P sc fm) 435 72 (.lor) (73) := ri_of (by decide +kernel) rfl
theorem wi_435_73 : ri (rt_P sc fm) 435 73 (.lstore_n 2) (74) := ri_of (by decide +kernel) rfl
theorem wi_435_74 : ri (rt_P sc fm) 435 74 (.iinc 4 1) (77) := ri_of (by decide +kernel) rfl
theorem wi_435_77 : ri (rt_P sc fm) 435 77 (.goto (-64)) (80) := ri_of (by decide +kernel) rfl
theorem wi_435_8 : ri (rt_P sc fm) 435 8 (.lconst 0) (9) := ri_of (by decide +kernel) rfl
theorem wi_435_80 : ri (rt_P sc fm) 435 80 (.lload_n 2) (81) := ri_of (by decide +kernel) rfl
theorem wi_435_81 : ri (rt_P sc fm) 435 81 (.lreturn) (82) := ri_of (by decide +kernel) rfl
theorem wi_435_9 : ri (rt_P sc fm) 435 9 (.lstore_n 2) (10) := ri_of (by decide +kernel) rfl
theorem wp_435_733 : rx_pt (rt_P sc fm) 435 733 = some (15, 82, .boolean) := (by decide +kernel : rt_pt 435 733 = some (15, 82, .boolean))
theorem wp_435_736 : rx_pt (rt_P sc fm) 435 736 = some (15, 80, .int) := (by decide +kernel : rt_pt 435 736 = some (15, 80, .int))
theorem wr_435 : rx_rt (rt_P sc fm) 435 = (some FieldType.long) := (by decide +kernel : rt_rt 435 = (some FieldType.long))
/-- MarkHouseModel.fileText()J -/
def d_435 (n : Nat)  (c : cS) : Option (Int64 × cS) :=
  Option.bind (d_433 n 0 8 c) (fun r1 =>
  Option.bind (whl (R := (Int64 × cS)) (fun s5 : Int64 × Int32 × cS =>
    if r1.1 ≤ s5.2.1 then
      some (.inr (s5.1, s5.2.2))
    else
      if (s5.2.2.1 174 82) = 0 then
        Option.bind (d_433 n 32 126 s5.2.2) (fun r6 =>
        jn (fun p8 : cS =>
          lt (((s5.1 <<< ((8 : Int32).toInt64 &&& 63)) ||| (r6.1 : Int32).toInt64) : Int64) (fun v10 =>
          lt (s5.2.1 + 1 : Int32) (fun v13 =>
          some (.inl (v10, v13, p8)))))
        (fun j65 =>
        if (r6.2.1 174 82) = 0 then
          if r6.1 = 39 then
            lt (pI r6.2 174 82 1) (fun c15 =>
            lt (pI c15 174 80 ((c15.1 174 80) - 1)) (fun c17 =>
            j65 c17))
          else
            j65 r6.2
        else
          j65 r6.2))
      else
        some (.inr (s5.1, s5.2.2))) n (0, 0, r1.2))
  (fun x19 : Int64 × cS =>
    some (x19.1, x19.2)))
set_option maxRecDepth 100000 in
set_option maxHeartbeats 4000000 in
theorem sp_435 {F Lo n : Nat}  {c y : cS} {w : cW} {K : Int64 × cS → Prop} {Q : ((Option Value) ⊕ String) → List va_E → Prop} (hw : rOK fm w) (hF : 1 ≤ F) (hLo : 22 ≤ Lo)  (h : wp (d_435 n  c) K) (hQ : ∀ r, K r → Q (.inl (some (.long r.1))) (hq false r.2 y w)) : rs (rt_P sc fm) 435 F Lo 0 [(0, .ref 174)] [] (hq false c y w) Q := by
  unfold d_435 at h
  obtain ⟨lv, elv⟩ : ∃ lv : rx_L, lv = [(0, .ref 174)] := ⟨_, rfl⟩
  rw [← elv]
  have l0 : rx_ld lv 0 = some (.ref 174) := by rw [elv]; rfl
  refine rs_aldn wi_435_0 l0 ?_
  refine rs_pure wi_435_1 rfl ?_
  refine rs_topi (v := 0) (by decide) ?_
  refine rs_pure wi_435_2 rfl ?_
  refine rs_topi (v := 8) (by decide) ?_
  refine rs_V wi_435_4 wc_435_742 rfl (dq_isa tf_174_0 wa_15_433) (Nat.le_trans (by decide) hF) (ml_le wm_433 (Nat.le_trans (by decide) hLo)) rfl (sp_433 hw (Nat.le_trans (by decide : 0 ≤ 1 - 1) (Nat.sub_le_sub_right hF 1)) (ml_sub wm_433 (Nat.le_trans (by decide : 0 ≤ 22 - 22) (Nat.sub_le_sub_right hLo 22))) (wp_bind h) (fun r1 h => rs_back1 ?_))
  refine dl_istn wi_435_7 rfl (fun lv l1 t2 => ?_)
  have l0 := t2 _ _ (by decide) (Or.inl rfl) l0
  refine rs_pure wi_435_8 rfl ?_
  refine rs_topl (v := 0) (by decide) ?_
  refine dl_lstn wi_435_9 rfl (fun lv l2 t3 => ?_)
  have l0 := t3 _ _ (by decide) (by decide) (Or.inl rfl) l0
  have l1 := t3 _ _ (by decide) (by decide) (Or.inl rfl) l1
  refine rs_pure wi_435_10 rfl ?_
  refine rs_topi (v := 0) (by decide) ?_
  refine dl_ist wi_435_11 rfl (fun lv l4 t4 => ?_)
  have l0 := t4 _ _ (by decide) (Or.inl rfl) l0
  have l1 := t4 _ _ (by decide) (Or.inl rfl) l1
  have l2 := t4 _ _ (by decide) (Or.inr (by decide)) l2
  refine whl_ex (A := fun s5 : Int64 × Int32 × cS => ∀ lv, rx_ld lv 0 = some (.ref 174) → rx_ld lv 1 = some (.int r1.1) → rx_ld lv 2 = some (.long s5.1) → rx_ld lv 4 = some (.int s5.2.1) → rs (rt_P sc fm) 435 F Lo 13 lv [] (hq false s5.2.2 y w) Q) (B := (fun x19 : Int64 × cS => ∀ lv, rx_ld lv 2 = some (.long x19.1) → rs (rt_P sc fm) 435 F Lo 80 lv [] (hq false x19.2 y w) Q)) ?_ ?_ _ _ (wp_bind h) _ l0 l1 l2 l4
  · intro s5 h lv l0 l1 l2 l4
    refine rs_ild wi_435_13 l4 ?_
    refine rs_ildn wi_435_15 l1 ?_
    refine rs_icge (tg := 80) wi_435_16 ⟨by decide, by decide⟩ (fun q => ?_) (fun q => ?_)
    ·
      have h := wp_pos h q
      exact h _ l2
    ·
      have h := wp_neg h q
      refine rs_aldn wi_435_19 l0 ?_
      refine dq_gi wi_435_20 wf_435_733 tf_174_82 ?_
      refine rs_ifne (tg := 80) wi_435_23 ⟨by decide, by decide⟩ (fun q => ?_) (fun q => ?_)
      ·
        have h := wp_neg h q
        exact h _ l2
      ·
        have h := wp_pos h q
        refine rs_aldn wi_435_26 l0 ?_
        refine rs_pure wi_435_27 rfl ?_
        refine rs_topi (v := 32) (by decide) ?_
        refine rs_pure wi_435_29 rfl ?_
        refine rs_topi (v := 126) (by decide) ?_
        refine rs_V wi_435_31 wc_435_742 rfl (dq_isa tf_174_0 wa_15_433) (Nat.le_trans (by decide) hF) (ml_le wm_433 (Nat.le_trans (by decide) hLo)) rfl (sp_433 hw (Nat.le_trans (by decide : 0 ≤ 1 - 1) (Nat.sub_le_sub_right hF 1)) (ml_sub wm_433 (Nat.le_trans (by decide : 0 ≤ 22 - 22) (Nat.sub_le_sub_right hLo 22))) (wp_bind h) (fun r6 h => rs_back1 ?_))
        refine dl_ist wi_435_34 rfl (fun lv l5 t7 => ?_)
        have l0 := t7 _ _ (by decide) (Or.inl rfl) l0
        have l1 := t7 _ _ (by decide) (Or.inl rfl) l1
        have l2 := t7 _ _ (by decide) (Or.inr (by decide)) l2
        have l4 := t7 _ _ (by decide) (Or.inl rfl) l4
        refine rs_aldn wi_435_36 l0 ?_
        refine dq_gi wi_435_37 wf_435_733 tf_174_82 ?_
        refine wp_jn (B := fun p8 : cS => ∀ lv, rx_ld lv 0 = some (.ref 174) → rx_ld lv 1 = some (.int r1.1) → rx_ld lv 2 = some (.long s5.1) → rx_ld lv 4 = some (.int s5.2.1) → rx_ld lv 5 = some (.int r6.1) → rs (rt_P sc fm) 435 F Lo 65 lv [] (hq false p8 y w) Q) h (fun p8 h lv l0 l1 l2 l4 l5 => ?_) (fun j65 hj65 h => ?_)
        ·
          refine rs_lldn wi_435_65 l2 ?_
          refine rs_pure wi_435_66 rfl ?_
          refine rs_topi (v := 8) (by decide) ?_
          refine rs_pure wi_435_68 rfl ?_
          refine rs_ild wi_435_69 l5 ?_
          refine rs_pure wi_435_71 rfl ?_
          refine rs_pure wi_435_72 rfl ?_
          obtain ⟨v10, e11, h⟩ := wp_lt h
          refine rs_topl e11 ?_
          refine dl_lstn wi_435_73 rfl (fun lv l2 t9 => ?_)
          have l0 := t9 _ _ (by decide) (by decide) (Or.inl rfl) l0
          have l1 := t9 _ _ (by decide) (by decide) (Or.inl rfl) l1
          have l4 := t9 _ _ (by decide) (by decide) (Or.inl rfl) l4
          obtain ⟨v13, e14, h⟩ := wp_lt h
          refine dl_inc wi_435_74 l4 rfl e14 (fun lv l4 t12 => ?_)
          have l0 := t12 _ _ (by decide) (Or.inl rfl) l0
          have l1 := t12 _ _ (by decide) (Or.inl rfl) l1
          have l2 := t12 _ _ (by decide) (Or.inr (by decide)) l2
          refine rs_goto (tg := 13) wi_435_77 ⟨by decide, by decide⟩ ?_
          exact h _ l0 l1 l2 l4
        refine rs_ifne (tg := 65) wi_435_40 ⟨by decide, by decide⟩ (fun q => ?_) (fun q => ?_)
        ·
          have h := wp_neg h q
          exact hj65 _ h _ l0 l1 l2 l4 l5
        ·
          have h := wp_pos h q
          refine rs_ild wi_435_43 l5 ?_
          refine rs_pure wi_435_45 rfl ?_
          refine rs_topi (v := 39) (by decide) ?_
          refine rs_icne (tg := 65) wi_435_47 ⟨by decide, by decide⟩ (fun q => ?_) (fun q => ?_)
          ·
            have h := wp_neg h q
            exact hj65 _ h _ l0 l1 l2 l4 l5
          ·
            have h := wp_pos h q
            refine rs_aldn wi_435_50 l0 ?_
            refine rs_pure wi_435_51 rfl ?_
            refine rs_topi (v := 1) (by decide) ?_
            obtain ⟨c15, e16, h⟩ := wp_lt h
            refine dq_pi wi_435_52 wp_435_733 tf_174_82 (nb_n (by decide)) (nb_f (by decide)) e16 ?_
            refine rs_aldn wi_435_55 l0 ?_
            refine rs_pure wi_435_56 rfl ?_
            refine dq_gi wi_435_57 wf_435_736 tf_174_80 ?_
            refine rs_pure wi_435_60 rfl ?_
            refine rs_topi (v := 1) (by decide) ?_
            refine rs_pure wi_435_61 rfl ?_
            obtain ⟨c17, e18, h⟩ := wp_lt h
            refine dq_pi wi_435_62 wp_435_736 tf_174_80 rfl rfl e18 ?_
            exact hj65 _ h _ l0 l1 l2 l4 l5
  ·
    intro x19 h lv l2
    refine rs_lldn wi_435_80 l2 ?_
    exact rs_lret wi_435_81 wr_435 (hQ (x19.1, x19.2) h)
theorem wa_15_434 : rz_cn 15 (rx_yn (rt_P sc fm) 434).cls = true := (by decide +kernel : rz_cn 15 (rt_yn 434).cls = true)
theorem wa_15_435 : rz_cn 15 (rx_yn (rt_P sc fm) 435).cls = true := (by decide +kernel : rz_cn 15 (rt_yn 435).cls = true)
theorem wc_436_561 : rx_ct (rt_P sc fm) 436 561 = some (0, 394, 4) := (by decide +kernel : rt_ct 436 561 = some (0, 394, 4))
theorem wc_436_742 : rx_ct (rt_P sc fm) 436 742 = some (0, 433, 2) := (by decide +kernel : rt_ct 436 742 = some (0, 433, 2))
theorem wc_436_745 : rx_ct (rt_P sc fm) 436 745 = some (0, 434, 0) := (by decide +kernel : rt_ct 436 745 = some (0, 434, 0))
theorem wc_436_748 : rx_ct (rt_P sc fm) 436 748 = some (0, 435, 0) := (by decide +kernel : rt_ct 436 748 = some (0, 435, 0))
theorem wf_436_733 : rx_ft (rt_P sc fm) 436 733 = some (15, 82) := (by decide +kernel : rt_ft 436 733 = some (15, 82))
theorem wi_436_0 : ri (rt_P sc fm) 436 0 (.aload_n 0) (1) := ri_of (by decide +kernel) rfl
theorem wi_436_1 : ri (rt_P sc fm) 436 1 (.invokevirtual 745) (4) := ri_of (by decide +kernel) rfl
theorem wi_436_100 : ri (rt_P sc fm) 436 100 (.lload_n 2) (101) := ri_of (by decide +kernel) rfl
theorem wi_436_101 : ri (rt_P sc fm) 436 101 (.iload 4) (103) := ri_of (by decide +kernel) rfl
theorem wi_436_103 : ri (rt_P sc fm) 436 103 (.lload 5) (105) := ri_of (by decide +kernel) rfl
theorem wi_436_105 : ri (rt_P sc fm) 436 105 (.invokevirtual 561) (108) := ri_of (by decide +kernel) rfl
theorem wi_436_108 : ri (rt_P sc fm) 436 108 (.return_) (109) := ri_of (by decide +kernel) rfl
theorem wi_436_11 : ri (rt_P sc fm) 436 11 (.istore 4) (13) := ri_of (by decide +kernel) rfl
theorem wi_436_13 : ri (rt_P sc fm) 436 13 (.lconst 0) (14) := ri_of (by decide +kernel) rfl
theorem wi_436_14 : ri (rt_P sc fm) 436 14 (.lstore 5) (16) := ri_of (by decide +kernel) rfl
theorem wi_436_16 : ri (rt_P sc fm) 436 16 (.iload 4) (18) := ri_of (by decide +kernel) rfl
theorem wi_436_18 : ri (rt_P sc fm) 436 18 (.iconst 1) (19) := ri_of (by decide +kernel) rfl
theorem wi_436_19 : ri (rt_P sc fm) 436 19 (.if_icmp .ne 45) (22) := ri_of (by decide +kernel) rfl
theorem wi_436_22 : ri (rt_P sc fm) 436 22 (.iconst 0) (23) := ri_of (by decide +kernel) rfl
theorem wi_436_23 : ri (rt_P sc fm) 436 23 (.istore 7) (25) := ri_of (by decide +kernel) rfl
theorem wi_436_25 : ri (rt_P sc fm) 436 25 (.iconst 0) (26) := ri_of (by decide +kernel) rfl
theorem wi_436_26 : ri (rt_P sc fm) 436 26 (.istore 8) (28) := ri_of (by decide +kernel) rfl
theorem wi_436_28 : ri (rt_P sc fm) 436 28 (.iload 8) (30) := ri_of (by decide +kernel) rfl
theorem wi_436_30 : ri (rt_P sc fm) 436 30 (.iconst 4) (31) := ri_of (by decide +kernel) rfl
theorem wi_436_31 : ri (rt_P sc fm) 436 31 (.if_icmp .ge 25) (34) := ri_of (by decide +kernel) rfl
theorem wi_436_34 : ri (rt_P sc fm) 436 34 (.iload 7) (36) := ri_of (by decide +kernel) rfl
theorem wi_436_36 : ri (rt_P sc fm) 436 36 (.bipush 8) (38) := ri_of (by decide +kernel) rfl
theorem wi_436_38 : ri (rt_P sc fm) 436 38 (.ishl) (39) := ri_of (by decide +kernel) rfl
theorem wi_436_39 : ri (rt_P sc fm) 436 39 (.aload_n 0) (40) := ri_of (by decide +kernel) rfl
theorem wi_436_4 : ri (rt_P sc fm) 436 4 (.lstore_n 2) (5) := ri_of (by decide +kernel) rfl
theorem wi_436_40 : ri (rt_P sc fm) 436 40 (.iconst 0) (41) := ri_of (by decide +kernel) rfl
theorem wi_436_41 : ri (rt_P sc fm) 436 41 (.sipush 255) (44) := ri_of (by decide +kernel) rfl
theorem wi_436_44 : ri (rt_P sc fm) 436 44 (.invokevirtual 742) (47) := ri_of (by decide +kernel) rfl
theorem wi_436_47 : ri (rt_P sc fm) 436 47 (.ior) (48) := ri_of (by decide +kernel) rfl
theorem wi_436_48 : ri (rt_P sc fm) 436 48 (.istore 7) (50) := ri_of (by decide +kernel) rfl
theorem wi_436_5 : ri (rt_P sc fm) 436 5 (.aload_n 0) (6) := ri_of (by decide +kernel) rfl
theorem wi_436_50 : ri (rt_P sc fm) 436 50 (.iinc 8 1) (53) := ri_of (by decide +kernel) rfl
theorem wi_436_53 : ri (rt_P sc fm) 436 53 (.goto (-25)) (56) := ri_of (by decide +kernel) rfl
theorem wi_436_56 : ri (rt_P sc fm) 436 56 (.iload 7) (58) := ri_of (by decide +kernel) rfl
theorem wi_436_58 : ri (rt_P sc fm) 436 58 (.i2l) (59) := ri_of (by decide +kernel) rfl
theorem wi_436_59 : ri (rt_P sc fm) 436 59 (.lstore 5) (61) := ri_of (by decide +kernel) rfl
theorem wi_436_6 : ri (rt_P sc fm) 436 6 (.iconst 1) (7) := ri_of (by decide +kernel) rfl
theorem wi_436_61 : ri (rt_P sc fm) 436 61 (.goto 30) (64) := ri_of (by decide +kernel) rfl
theorem wi_436_64 : ri (rt_P sc fm) 436 64 (.iload 4) (66) := ri_of (by decide +kernel) rfl
theorem wi_436_66 : ri (rt_P sc fm) 436 66 (.iconst 2) (67) := ri_of (by decide +kernel) rfl
theorem wi_436_67 : ri (rt_P sc fm) 436 67 (.if_icmp .ne 12) (70) := ri_of (by decide +kernel) rfl
theorem wi_436_7 : ri (rt_P sc fm) 436 7 (.iconst 3) (8) := ri_of (by decide +kernel) rfl
theorem wi_436_70 : ri (rt_P sc fm) 436 70 (.aload_n 0) (71) := ri_of (by decide +kernel) rfl
theorem wi_436_71 : ri (rt_P sc fm) 436 71 (.invokevirtual 748) (74) := ri_of (by decide +kernel) rfl
theorem wi_436_74 : ri (rt_P sc fm) 436 74 (.lstore 5) (76) := ri_of (by decide +kernel) rfl
theorem wi_436_76 : ri (rt_P sc fm) 436 76 (.goto 15) (79) := ri_of (by decide +kernel) rfl
theorem wi_436_79 : ri (rt_P sc fm) 436 79 (.iload 4) (81) := ri_of (by decide +kernel) rfl
theorem wi_436_8 : ri (rt_P sc fm) 436 8 (.invokevirtual 742) (11) := ri_of (by decide +kernel) rfl
theorem wi_436_81 : ri (rt_P sc fm) 436 81 (.iconst 3) (82) := ri_of (by decide +kernel) rfl
theorem wi_436_82 : ri (rt_P sc fm) 436 82 (.if_icmp .ne 9) (85) := ri_of (by decide +kernel) rfl
theorem wi_436_85 : ri (rt_P sc fm) 436 85 (.aload_n 0) (86) := ri_of (by decide +kernel) rfl
theorem wi_436_86 : ri (rt_P sc fm) 436 86 (.invokevirtual 745) (89) := ri_of (by decide +kernel) rfl
theorem wi_436_89 : ri (rt_P sc fm) 436 89 (.lstore 5) (91) := ri_of (by decide +kernel) rfl
theorem wi_436_91 : ri (rt_P sc fm) 436 91 (.aload_n 0) (92) := ri_of (by decide +kernel) rfl
theorem wi_436_92 : ri (rt_P sc fm) 436 92 (.getfield 733) (95) := ri_of (by decide +kernel) rfl
theorem wi_436_95 : ri (rt_P sc fm) 436 95 (.ifCond .ne 13) (98) := ri_of (by decide +kernel) rfl
theorem wi_436_98 : ri (rt_P sc fm) 436 98 (.aload_n 0) (99) := ri_of (by decide +kernel) rfl
theorem wi_436_99 : ri (rt_P sc fm) 436 99 (.iload_n 1) (100) := ri_of (by decide +kernel) rfl
theorem wm_434 : rx_ml (rt_P sc fm) 434 = 6 := (by decide +kernel : rt_ml 434 = 6)
theorem wm_435 : rx_ml (rt_P sc fm) 435 = 6 := (by decide +kernel : rt_ml 435 = 6)
theorem wr_436 : rx_rt (rt_P sc fm) 436 = none := (by decide +kernel : rt_rt 436 = none)
/-- MarkHouseModel.filePair(I)V -/
def d_436 (n : Nat) (a1 : Int32) (c : cS) : Option (cS) :=
  Option.bind (d_434 n c) (fun r1 =>
  Option.bind (d_433 n 1 3 r1.2) (fun r3 =>
  jn (fun p6 : Int64 × cS =>
    jn (fun p7 : cS =>
      some p7)
    (fun j108 =>
    if (p6.2.1 174 82) = 0 then
      Option.bind (d_394 n a1 r1.1 r3.1 p6.1 p6.2) (fun r8 =>
      j108 r8)
    else
      j108 p6.2))
  (fun j91 =>
  if r3.1 = 1 then
    Option.bind (whl (R := (Int32 × cS)) (fun s15 : Int32 × Int32 × cS =>
      if 4 ≤ s15.2.1 then
        some (.inr (s15.1, s15.2.2))
      else
        Option.bind (d_433 n 0 255 s15.2.2) (fun r16 =>
        lt (((s15.1 <<< (8 &&& 31)) ||| r16.1) : Int32) (fun v18 =>
        lt (s15.2.1 + 1 : Int32) (fun v21 =>
        some (.inl (v18, v21, r16.2)))))) n (0, 0, r3.2))
    (fun x23 : Int32 × cS =>
      lt ((x23.1 : Int32).toInt64 : Int64) (fun v25 =>
      j91 (v25, x23.2)))
  else
    if r3.1 = 2 then
      Option.bind (d_435 n r3.2) (fun r11 =>
      j91 (r11.1, r11.2))
    else
      if r3.1 = 3 then
        Option.bind (d_434 n r3.2) (fun r9 =>
        j91 (r9.1, r9.2))
      else
        j91 (0, r3.2))))
set_option maxRecDepth 100000 in
set_option maxHeartbeats 4000000 in
theorem sp_436 {F Lo n : Nat} {a1 : Int32} {c y : cS} {w : cW} {K : cS → Prop} {Q : ((Option Value) ⊕ String) → List va_E → Prop} (hw : rOK fm w) (hF : 2 ≤ F) (hLo : 47 ≤ Lo)  (h : wp (d_436 n a1 c) K) (hQ : ∀ r, K r → Q (.inl none) (hq false r y w)) : rs (rt_P sc fm) 436 F Lo 0 [(0, .ref 174), (1, .int a1)] [] (hq false c y w) Q := by
  unfold d_436 at h
  obtain ⟨lv, elv⟩ : ∃ lv : rx_L, lv = [(0, .ref 174), (1, .int a1)] := ⟨_, rfl⟩
  rw [← elv]
  have l0 : rx_ld lv 0 = some (.ref 174) := by rw [elv]; rfl
  have l1 : rx_ld lv 1 = some (.int a1) := by rw [elv]; rfl
  refine rs_aldn wi_436_0 l0 ?_
  refine rs_V wi_436_1 wc_436_745 rfl (dq_isa tf_174_0 wa_15_434) (Nat.le_trans (by decide) hF) (ml_le wm_434 (Nat.le_trans (by decide) hLo)) rfl (sp_434 hw (Nat.le_trans (by decide : 1 ≤ 2 - 1) (Nat.sub_le_sub_right hF 1)) (ml_sub wm_434 (Nat.le_trans (by decide : 22 ≤ 47 - 25) (Nat.sub_le_sub_right hLo 25))) (wp_bind h) (fun r1 h => rs_back1 ?_))
  refine dl_lstn wi_436_4 rfl (fun lv l2 t2 => ?_)
  have l0 := t2 _ _ (by decide) (by decide) (Or.inl rfl) l0
  have l1 := t2 _ _ (by decide) (by decide) (Or.inl rfl) l1
  refine rs_aldn wi_436_5 l0 ?_
  refine rs_pure wi_436_6 rfl ?_
  refine rs_topi (v := 1) (by decide) ?_
  refine rs_pure wi_436_7 rfl ?_
  refine rs_topi (v := 3) (by decide) ?_
  refine rs_V wi_436_8 wc_436_742 rfl (dq_isa tf_174_0 wa_15_433) (Nat.le_trans (by decide) hF) (ml_le wm_433 (Nat.le_trans (by decide) hLo)) rfl (sp_433 hw (Nat.le_trans (by decide : 0 ≤ 2 - 1) (Nat.sub_le_sub_right hF 1)) (ml_sub wm_433 (Nat.le_trans (by decide : 0 ≤ 47 - 22) (Nat.sub_le_sub_right hLo 22))) (wp_bind h) (fun r3 h => rs_back1 ?_))
  refine dl_ist wi_436_11 rfl (fun lv l4 t4 => ?_)
  have l0 := t4 _ _ (by decide) (Or.inl rfl) l0
  have l1 := t4 _ _ (by decide) (Or.inl rfl) l1
  have l2 := t4 _ _ (by decide) (Or.inr (by decide)) l2
  refine rs_pure wi_436_13 rfl ?_
  refine rs_topl (v := 0) (by decide) ?_
  refine dl_lst wi_436_14 rfl (fun lv l5 t5 => ?_)
  have l0 := t5 _ _ (by decide) (by decide) (Or.inl rfl) l0
  have l1 := t5 _ _ (by decide) (by decide) (Or.inl rfl) l1
  have l2 := t5 _ _ (by decide) (by decide) (Or.inr (by decide)) l2
  have l4 := t5 _ _ (by decide) (by decide) (Or.inl rfl) l4
  refine rs_ild wi_436_16 l4 ?_
  refine rs_pure wi_436_18 rfl ?_
  refine rs_topi (v := 1) (by decide) ?_
  refine wp_jn (B := fun p6 : Int64 × cS => ∀ lv, rx_ld lv 0 = some (.ref 174) → rx_ld lv 1 = some (.int a1) → rx_ld lv 2 = some (.long r1.1) → rx_ld lv 4 = some (.int r3.1) → rx_ld lv 5 = some (.long p6.1) → rs (rt_P sc fm) 436 F Lo 91 lv [] (hq false p6.2 y w) Q) h (fun p6 h lv l0 l1 l2 l4 l5 => ?_) (fun j91 hj91 h => ?_)
  ·
    refine rs_aldn wi_436_91 l0 ?_
    refine dq_gi wi_436_92 wf_436_733 tf_174_82 ?_
    refine wp_jn (B := fun p7 : cS => ∀ lv, rs (rt_P sc fm) 436 F Lo 108 lv [] (hq false p7 y w) Q) h (fun p7 h lv => ?_) (fun j108 hj108 h => ?_)
    ·
      exact rs_vret wi_436_108 wr_436 (hQ p7 h)
    refine rs_ifne (tg := 108) wi_436_95 ⟨by decide, by decide⟩ (fun q => ?_) (fun q => ?_)
    ·
      have h := wp_neg h q
      exact hj108 _ h _
    ·
      have h := wp_pos h q
      refine rs_aldn wi_436_98 l0 ?_
      refine rs_ildn wi_436_99 l1 ?_
      refine rs_lldn wi_436_100 l2 ?_
      refine rs_ild wi_436_101 l4 ?_
      refine rs_lld wi_436_103 l5 ?_
      refine rs_V wi_436_105 wc_436_561 rfl (dq_isa tf_174_0 wa_15_394) (Nat.le_trans (by decide) hF) (ml_le wm_394 (Nat.le_trans (by decide) hLo)) rfl (sp_394 hw (Nat.le_trans (by decide : 0 ≤ 2 - 1) (Nat.sub_le_sub_right hF 1)) (ml_sub wm_394 (Nat.le_trans (by decide : 0 ≤ 47 - 27) (Nat.sub_le_sub_right hLo 27))) (wp_bind h) (fun r8 h => rs_back0 ?_))
      exact hj108 _ h _
  refine rs_icne (tg := 64) wi_436_19 ⟨by decide, by decide⟩ (fun q => ?_) (fun q => ?_)
  ·
    have h := wp_neg h q
    refine rs_ild wi_436_64 l4 ?_
    refine rs_pure wi_436_66 rfl ?_
    refine rs_topi (v := 2) (by decide) ?_
    refine rs_icne (tg := 79) wi_436_67 ⟨by decide, by decide⟩ (fun q => ?_) (fun q => ?_)
    ·
      have h := wp_neg h q
      refine rs_ild wi_436_79 l4 ?_
      refine rs_pure wi_436_81 rfl ?_
      refine rs_topi (v := 3) (by decide) ?_
      refine rs_icne (tg := 91) wi_436_82 ⟨by decide, by decide⟩ (fun q => ?_) (fun q => ?_)
      ·
        have h := wp_neg h q
        exact hj91 _ h _ l0 l1 l2 l4 l5
      ·
        have h := wp_pos h q
        refine rs_aldn wi_436_85 l0 ?_
        refine rs_V wi_436_86 wc_436_745 rfl (dq_isa tf_174_0 wa_15_434) (Nat.le_trans (by decide) hF) (ml_le wm_434 (Nat.le_trans (by decide) hLo)) rfl (sp_434 hw (Nat.le_trans (by decide : 1 ≤ 2 - 1) (Nat.sub_le_sub_right hF 1)) (ml_sub wm_434 (Nat.le_trans (by decide : 22 ≤ 47 - 25) (Nat.sub_le_sub_right hLo 25))) (wp_bind h) (fun r9 h => rs_back1 ?_))
        refine dl_lst wi_436_89 rfl (fun lv l5 t10 => ?_)
        have l0 := t10 _ _ (by decide) (by decide) (Or.inl rfl) l0
        have l1 := t10 _ _ (by decide) (by decide) (Or.inl rfl) l1
        have l2 := t10 _ _ (by decide) (by decide) (Or.inr (by decide)) l2
        have l4 := t10 _ _ (by decide) (by decide) (Or.inl rfl) l4
        exact hj91 _ h _ l0 l1 l2 l4 l5
    ·
      have h := wp_pos h q
      refine rs_aldn wi_436_70 l0 ?_
      refine rs_V wi_436_71 wc_436_748 rfl (dq_isa tf_174_0 wa_15_435) (Nat.le_trans (by decide) hF) (ml_le wm_435 (Nat.le_trans (by decide) hLo)) rfl (sp_435 hw (Nat.le_trans (by decide : 1 ≤ 2 - 1) (Nat.sub_le_sub_right hF 1)) (ml_sub wm_435 (Nat.le_trans (by decide : 22 ≤ 47 - 25) (Nat.sub_le_sub_right hLo 25))) (wp_bind h) (fun r11 h => rs_back1 ?_))
      refine dl_lst wi_436_74 rfl (fun lv l5 t12 => ?_)
      have l0 := t12 _ _ (by decide) (by decide) (Or.inl rfl) l0
      have l1 := t12 _ _ (by decide) (by decide) (Or.inl rfl) l1
      have l2 := t12 _ _ (by decide) (by decide) (Or.inr (by decide)) l2
      have l4 := t12 _ _ (by decide) (by decide) (Or.inl rfl) l4
      refine rs_goto (tg := 91) wi_436_76 ⟨by decide, by decide⟩ ?_
      exact hj91 _ h _ l0 l1 l2 l4 l5
  ·
    have h := wp_pos h q
    refine rs_pure wi_436_22 rfl ?_
    refine rs_topi (v := 0) (by decide) ?_
    refine dl_ist wi_436_23 rfl (fun lv l7 t13 => ?_)
    have l0 := t13 _ _ (by decide) (Or.inl rfl) l0
    have l1 := t13 _ _ (by decide) (Or.inl rfl) l1
    have l2 := t13 _ _ (by decide) (Or.inr (by decide)) l2
    have l4 := t13 _ _ (by decide) (Or.inl rfl) l4
    refine rs_pure wi_436_25 rfl ?_
    refine rs_topi (v := 0) (by decide) ?_
    refine dl_ist wi_436_26 rfl (fun lv l8 t14 => ?_)
    have l0 := t14 _ _ (by decide) (Or.inl rfl) l0
    have l1 := t14 _ _ (by decide) (Or.inl rfl) l1
    have l2 := t14 _ _ (by decide) (Or.inr (by decide)) l2
    have l4 := t14 _ _ (by decide) (Or.inl rfl) l4
    have l7 := t14 _ _ (by decide) (Or.inl rfl) l7
    refine whl_ex (A := fun s15 : Int32 × Int32 × cS => ∀ lv, rx_ld lv 0 = some (.ref 174) → rx_ld lv 1 = some (.int a1) → rx_ld lv 2 = some (.long r1.1) → rx_ld lv 4 = some (.int r3.1) → rx_ld lv 7 = some (.int s15.1) → rx_ld lv 8 = some (.int s15.2.1) → rs (rt_P sc fm) 436 F Lo 28 lv [] (hq false s15.2.2 y w) Q) (B := (fun x23 : Int32 × cS => ∀ lv, rx_ld lv 0 = some (.ref 174) → rx_ld lv 1 = some (.int a1) → rx_ld lv 2 = some (.long r1.1) → rx_ld lv 4 = some (.int r3.1) → rx_ld lv 7 = some (.int x23.1) → rs (rt_P sc fm) 436 F Lo 56 lv [] (hq false x23.2 y w) Q)) ?_ ?_ _ _ (wp_bind h) _ l0 l1 l2 l4 l7 l8
    · intro s15 h lv l0 l1 l2 l4 l7 l8
      refine rs_ild wi_436_28 l8 ?_
      refine rs_pure wi_436_30 rfl ?_
      refine rs_topi (v := 4) (by decide) ?_
      refine rs_icge (tg := 56) wi_436_31 ⟨by decide, by decide⟩ (fun q => ?_) (fun q => ?_)
      ·
        have h := wp_pos h q
        exact h _ l0 l1 l2 l4 l7
      ·
        have h := wp_neg h q
        refine rs_ild wi_436_34 l7 ?_
        refine rs_pure wi_436_36 rfl ?_
        refine rs_topi (v := 8) (by decide) ?_
        refine rs_pure wi_436_38 rfl ?_
        refine rs_aldn wi_436_39 l0 ?_
        refine rs_pure wi_436_40 rfl ?_
        refine rs_topi (v := 0) (by decide) ?_
        refine rs_pure wi_436_41 rfl ?_
        refine rs_topi (v := 255) (by decide) ?_
        refine rs_V wi_436_44 wc_436_742 rfl (dq_isa tf_174_0 wa_15_433) (Nat.le_trans (by decide) hF) (ml_le wm_433 (Nat.le_trans (by decide) hLo)) rfl (sp_433 hw (Nat.le_trans (by decide : 0 ≤ 2 - 1) (Nat.sub_le_sub_right hF 1)) (ml_sub wm_433 (Nat.le_trans (by decide : 0 ≤ 47 - 22) (Nat.sub_le_sub_right hLo 22))) (wp_bind h) (fun r16 h => rs_back1 ?_))
        refine rs_pure wi_436_47 rfl ?_
        obtain ⟨v18, e19, h⟩ := wp_lt h
        refine rs_topi e19 ?_
        refine dl_ist wi_436_48 rfl (fun lv l7 t17 => ?_)
        have l0 := t17 _ _ (by decide) (Or.inl rfl) l0
        have l1 := t17 _ _ (by decide) (Or.inl rfl) l1
        have l2 := t17 _ _ (by decide) (Or.inr (by decide)) l2
        have l4 := t17 _ _ (by decide) (Or.inl rfl) l4
        have l8 := t17 _ _ (by decide) (Or.inl rfl) l8
        obtain ⟨v21, e22, h⟩ := wp_lt h
        refine dl_inc wi_436_50 l8 rfl e22 (fun lv l8 t20 => ?_)
        have l0 := t20 _ _ (by decide) (Or.inl rfl) l0
        have l1 := t20 _ _ (by decide) (Or.inl rfl) l1
        have l2 := t20 _ _ (by decide) (Or.inr (by decide)) l2
        have l4 := t20 _ _ (by decide) (Or.inl rfl) l4
        have l7 := t20 _ _ (by decide) (Or.inl rfl) l7
        refine rs_goto (tg := 28) wi_436_53 ⟨by decide, by decide⟩ ?_
        exact h _ l0 l1 l2 l4 l7 l8
    ·
      intro x23 h lv l0 l1 l2 l4 l7
      refine rs_ild wi_436_56 l7 ?_
      refine rs_pure wi_436_58 rfl ?_
      obtain ⟨v25, e26, h⟩ := wp_lt h
      refine rs_topl e26 ?_
      refine dl_lst wi_436_59 rfl (fun lv l5 t24 => ?_)
      have l0 := t24 _ _ (by decide) (by decide) (Or.inl rfl) l0
      have l1 := t24 _ _ (by decide) (by decide) (Or.inl rfl) l1
      have l2 := t24 _ _ (by decide) (by decide) (Or.inr (by decide)) l2
      have l4 := t24 _ _ (by decide) (by decide) (Or.inl rfl) l4
      refine rs_goto (tg := 91) wi_436_61 ⟨by decide, by decide⟩ ?_
      exact hj91 _ h _ l0 l1 l2 l4 l5
theorem wc_437_543 : rx_ct (rt_P sc fm) 437 543 = some (0, 392, 2) := (by decide +kernel : rt_ct 437 543 = some (0, 392, 2))
theorem wc_437_555 : rx_ct (rt_P sc fm) 437 555 = some (0, 393, 3) := (by decide +kernel : rt_ct 437 555 = some (0, 393, 3))
theorem wc_437_561 : rx_ct (rt_P sc fm) 437 561 = some (0, 394, 4) := (by decide +kernel : rt_ct 437 561 = some (0, 394, 4))
theorem wf_437_218 : rx_ft (rt_P sc fm) 437 218 = some (15, 60) := (by decide +kernel : rt_ft 437 218 = some (15, 60))
theorem wf_437_221 : rx_ft (rt_P sc fm) 437 221 = some (15, 61) := (by decide +kernel : rt_ft 437 221 = some (15, 61))
theorem wf_437_224 : rx_ft (rt_P sc fm) 437 224 = some (15, 62) := (by decide +kernel : rt_ft 437 224 = some (15, 62))
theorem wf_437_227 : rx_ft (rt_P sc fm) 437 227 = some (15, 63) := (by decide +kernel : rt_ft 437 227 = some (15, 63))
theorem wf_437_231 : rx_ft (rt_P sc fm) 437 231 = some (15, 64) := (by decide +kernel : rt_ft 437 231 = some (15, 64))
theorem wf_437_234 : rx_ft (rt_P sc fm) 437 234 = some (15, 65) := (by decide +kernel : rt_ft 437 234 = some (15, 65))
theorem wf_437_237 : rx_ft (rt_P sc fm) 437 237 = some (15, 66) := (by decide +kernel : rt_ft 437 237 = some (15, 66))
theorem wi_437_0 : ri (rt_P sc fm) 437 0 (.aload_n 0) (1) := ri_of (by decide +kernel) rfl
theorem wi_437_1 : ri (rt_P sc fm) 437 1 (.iload_n 2) (2) := ri_of (by decide +kernel) rfl
theorem wi_437_12 : ri (rt_P sc fm) 437 12 (.iload_n 1) (13) := ri_of (by decide +kernel) rfl
theorem wi_437_13 : ri (rt_P sc fm) 437 13 (.baload) (14) := ri_of (by decide +kernel) rfl
theorem wi_437_14 : ri (rt_P sc fm) 437 14 (.invokevirtual 555) (17) := ri_of (by decide +kernel) rfl
theorem wi_437_17 : ri (rt_P sc fm) 437 17 (.aload_n 0) (18) := ri_of (by decide +kernel) rfl
theorem wi_437_18 : ri (rt_P sc fm) 437 18 (.iload_n 2) (19) := ri_of (by decide +kernel) rfl
theorem wi_437_19 : ri (rt_P sc fm) 437 19 (.aload_n 0) (20) := ri_of (by decide +kernel) rfl
theorem wi_437_2 : ri (rt_P sc fm) 437 2 (.aload_n 0) (3) := ri_of (by decide +kernel) rfl
theorem wi_437_20 : ri (rt_P sc fm) 437 20 (.getfield 218) (23) := ri_of (by decide +kernel) rfl
theorem wi_437_23 : ri (rt_P sc fm) 437 23 (.iload_n 2) (24) := ri_of (by decide +kernel) rfl
theorem wi_437_24 : ri (rt_P sc fm) 437 24 (.iaload) (25) := ri_of (by decide +kernel) rfl
theorem wi_437_25 : ri (rt_P sc fm) 437 25 (.iconst 1) (26) := ri_of (by decide +kernel) rfl
theorem wi_437_26 : ri (rt_P sc fm) 437 26 (.isub) (27) := ri_of (by decide +kernel) rfl
theorem wi_437_27 : ri (rt_P sc fm) 437 27 (.invokevirtual 543) (30) := ri_of (by decide +kernel) rfl
theorem wi_437_3 : ri (rt_P sc fm) 437 3 (.getfield 221) (6) := ri_of (by decide +kernel) rfl
theorem wi_437_30 : ri (rt_P sc fm) 437 30 (.istore_n 3) (31) := ri_of (by decide +kernel) rfl
theorem wi_437_31 : ri (rt_P sc fm) 437 31 (.iconst 0) (32) := ri_of (by decide +kernel) rfl
theorem wi_437_32 : ri (rt_P sc fm) 437 32 (.istore 4) (34) := ri_of (by decide +kernel) rfl
theorem wi_437_34 : ri (rt_P sc fm) 437 34 (.iload 4) (36) := ri_of (by decide +kernel) rfl
theorem wi_437_36 : ri (rt_P sc fm) 437 36 (.aload_n 0) (37) := ri_of (by decide +kernel) rfl
theorem wi_437_37 : ri (rt_P sc fm) 437 37 (.getfield 227) (40) := ri_of (by decide +kernel) rfl
theorem wi_437_40 : ri (rt_P sc fm) 437 40 (.iload_n 1) (41) := ri_of (by decide +kernel) rfl
theorem wi_437_41 : ri (rt_P sc fm) 437 41 (.iaload) (42) := ri_of (by decide +kernel) rfl
theorem wi_437_42 : ri (rt_P sc fm) 437 42 (.if_icmp .ge 47) (45) := ri_of (by decide +kernel) rfl
theorem wi_437_45 : ri (rt_P sc fm) 437 45 (.aload_n 0) (46) := ri_of (by decide +kernel) rfl
theorem wi_437_46 : ri (rt_P sc fm) 437 46 (.iload_n 3) (47) := ri_of (by decide +kernel) rfl
theorem wi_437_47 : ri (rt_P sc fm) 437 47 (.aload_n 0) (48) := ri_of (by decide +kernel) rfl
theorem wi_437_48 : ri (rt_P sc fm) 437 48 (.getfield 231) (51) := ri_of (by decide +kernel) rfl
theorem wi_437_51 : ri (rt_P sc fm) 437 51 (.iload_n 1) (52) := ri_of (by decide +kernel) rfl
theorem wi_437_52 : ri (rt_P sc fm) 437 52 (.iconst 4) (53) := ri_of (by decide +kernel) rfl
theorem wi_437_53 : ri (rt_P sc fm) 437 53 (.imul) (54) := ri_of (by decide +kernel) rfl
theorem wi_437_54 : ri (rt_P sc fm) 437 54 (.iload 4) (56) := ri_of (by decide +kernel) rfl
theorem wi_437_56 : ri (rt_P sc fm) 437 56 (.iadd) (57) := ri_of (by decide +kernel) rfl
theorem wi_437_57 : ri (rt_P sc fm) 437 57 (.laload) (58) := ri_of (by decide +kernel) rfl
theorem wi_437_58 : ri (rt_P sc fm) 437 58 (.aload_n 0) (59) := ri_of (by decide +kernel) rfl
theorem wi_437_59 : ri (rt_P sc fm) 437 59 (.getfield 234) (62) := ri_of (by decide +kernel) rfl
theorem wi_437_6 : ri (rt_P sc fm) 437 6 (.iload_n 1) (7) := ri_of (by decide +kernel) rfl
theorem wi_437_62 : ri (rt_P sc fm) 437 62 (.iload_n 1) (63) := ri_of (by decide +kernel) rfl
theorem wi_437_63 : ri (rt_P sc fm) 437 63 (.iconst 4) (64) := ri_of (by decide +kernel) rfl
theorem wi_437_64 : ri (rt_P sc fm) 437 64 (.imul) (65) := ri_of (by decide +kernel) rfl
theorem wi_437_65 : ri (rt_P sc fm) 437 65 (.iload 4) (67) := ri_of (by decide +kernel) rfl
theorem wi_437_67 : ri (rt_P sc fm) 437 67 (.iadd) (68) := ri_of (by decide +kernel) rfl
theorem wi_437_68 : ri (rt_P sc fm) 437 68 (.iaload) (69) := ri_of (by decide +kernel) rfl
theorem wi_437_69 : ri (rt_P sc fm) 437 69 (.aload_n 0) (70) := ri_of (by decide +kernel) rfl
theorem wi_437_7 : ri (rt_P sc fm) 437 7 (.laload) (8) := ri_of (by decide +kernel) rfl
theorem wi_437_70 : ri (rt_P sc fm) 437 70 (.getfield 237) (73) := ri_of (by decide +kernel) rfl
theorem wi_437_73 : ri (rt_P sc fm) 437 73 (.iload_n 1) (74) := ri_of (by decide +kernel) rfl
theorem wi_437_74 : ri (rt_P sc fm) 437 74 (.iconst 4) (75) := ri_of (by decide +kernel) rfl
theorem wi_437_75 : ri (rt_P sc fm) 437 75 (.imul) (76) := ri_of (by decide +kernel) rfl
theorem wi_437_76 : ri (rt_P sc fm) 437 76 (.iload 4) (78) := ri_of (by decide +kernel) rfl
theorem wi_437_78 : ri (rt_P sc fm) 437 78 (.iadd) (79) := ri_of (by decide +kernel) rfl
theorem wi_437_79 : ri (rt_P sc fm) 437 79 (.laload) (80) := ri_of (by decide +kernel) rfl
theorem wi_437_8 : ri (rt_P sc fm) 437 8 (.aload_n 0) (9) := ri_of (by decide +kernel) rfl
theorem wi_437_80 : ri (rt_P sc fm) 437 80 (.invokevirtual 561) (83) := ri_of (by decide +kernel) rfl
theorem wi_437_83 : ri (rt_P sc fm) 437 83 (.iinc 4 1) (86) := ri_of (by decide +kernel) rfl
theorem wi_437_86 : ri (rt_P sc fm) 437 86 (.goto (-52)) (89) := ri_of (by decide +kernel) rfl
theorem wi_437_89 : ri (rt_P sc fm) 437 89 (.return_) (90) := ri_of (by decide +kernel) rfl
theorem wi_437_9 : ri (rt_P sc fm) 437 9 (.getfield 224) (12) := ri_of (by decide +kernel) rfl
theorem wr_437 : rx_rt (rt_P sc fm) 437 = none := (by decide +kernel : rt_rt 437 = none)
/-- MarkHouseModel.copyMark(II)V -/
def d_437 (n : Nat) (a1 : Int32) (a2 : Int32) (c : cS) : Option (cS) :=
  if ib a1 24380 then
  if ib a1 24380 then
  Option.bind (d_393 n a2 (c.2 223 (ix a1)) (c.1 224 (ix a1)) c) (fun r3 =>
  if ib a2 1219 then
  Option.bind (d_392 n a2 ((r3.1 222 (ix a2)) - 1)) (fun v5 =>
  Option.bind (whl (R := (cS)) (fun s8 : Int32 × cS =>
    if ib a1 24380 then
    if (s8.2.1 225 (ix a1)) ≤ s8.1 then
      some (.inr s8.2)
    else
      if ib ((a1 * 4) + s8.1) 97520 then
      if ib ((a1 * 4) + s8.1) 97520 then
      if ib ((a1 * 4) + s8.1) 97520 then
      Option.bind (d_394 n v5 (s8.2.2 226 (ix ((a1 * 4) + s8.1))) (s8.2.1 227 (ix ((a1 * 4) + s8.1))) (s8.2.2 228 (ix ((a1 * 4) + s8.1))) s8.2) (fun r13 =>
      lt (s8.1 + 1 : Int32) (fun v15 =>
      some (.inl (v15, r13))))
      else none
      else none
      else none
    else none) n (0, r3))
  (fun x17 : cS =>
    some x17))
  else none)
  else none
  else none
set_option maxRecDepth 100000 in
set_option maxHeartbeats 4000000 in
theorem sp_437 {F Lo n : Nat} {a1 : Int32} {a2 : Int32} {c y : cS} {w : cW} {K : cS → Prop} {Q : ((Option Value) ⊕ String) → List va_E → Prop} (hw : rOK fm w) (hF : 2 ≤ F) (hLo : 47 ≤ Lo)  (h : wp (d_437 n a1 a2 c) K) (hQ : ∀ r, K r → Q (.inl none) (hq false r y w)) : rs (rt_P sc fm) 437 F Lo 0 [(0, .ref 174), (1, .int a1), (2, .int a2)] [] (hq false c y w) Q := by
  unfold d_437 at h
  obtain ⟨lv, elv⟩ : ∃ lv : rx_L, lv = [(0, .ref 174), (1, .int a1), (2, .int a2)] := ⟨_, rfl⟩
  rw [← elv]
  have l0 : rx_ld lv 0 = some (.ref 174) := by rw [elv]; rfl
  have l1 : rx_ld lv 1 = some (.int a1) := by rw [elv]; rfl
  have l2 : rx_ld lv 2 = some (.int a2) := by rw [elv]; rfl
  refine rs_aldn wi_437_0 l0 ?_
  refine rs_ildn wi_437_1 l2 ?_
  refine rs_aldn wi_437_2 l0 ?_
  refine dq_gr wi_437_3 wf_437_221 tf_174_61 ?_
  refine rs_ildn wi_437_6 l1 ?_
  obtain ⟨g1, h⟩ := wp_gd h
  refine dq_lald wi_437_7 t_223 g1 ?_
  refine rs_aldn wi_437_8 l0 ?_
  refine dq_gr wi_437_9 wf_437_224 tf_174_62 ?_
  refine rs_ildn wi_437_12 l1 ?_
  obtain ⟨g2, h⟩ := wp_gd h
  refine dq_zald wi_437_13 t_224 g2 ?_
  refine rs_V wi_437_14 wc_437_555 rfl (dq_isa tf_174_0 wa_15_393) (Nat.le_trans (by decide) hF) (ml_le wm_393 (Nat.le_trans (by decide) hLo)) rfl (sp_393 hw (Nat.le_trans (by decide : 1 ≤ 2 - 1) (Nat.sub_le_sub_right hF 1)) (ml_sub wm_393 (Nat.le_trans (by decide : 22 ≤ 47 - 25) (Nat.sub_le_sub_right hLo 25))) (wp_bind h) (fun r3 h => rs_back0 ?_))
  refine rs_aldn wi_437_17 l0 ?_
  refine rs_ildn wi_437_18 l2 ?_
  refine rs_aldn wi_437_19 l0 ?_
  refine dq_gr wi_437_20 wf_437_218 tf_174_60 ?_
  refine rs_ildn wi_437_23 l2 ?_
  obtain ⟨g4, h⟩ := wp_gd h
  refine dq_iald wi_437_24 t_222 g4 ?_
  refine rs_pure wi_437_25 rfl ?_
  refine rs_topi (v := 1) (by decide) ?_
  refine rs_pure wi_437_26 rfl ?_
  refine rs_V wi_437_27 wc_437_543 rfl (dq_isa tf_174_0 wa_15_392) (Nat.le_trans (by decide) hF) (ml_le wm_392 (Nat.le_trans (by decide) hLo)) rfl (sp_392 (Nat.le_trans (by decide : 0 ≤ 2 - 1) (Nat.sub_le_sub_right hF 1)) (ml_sub wm_392 (Nat.le_trans (by decide : 0 ≤ 47 - 22) (Nat.sub_le_sub_right hLo 22))) (wp_bind h) (fun v5 h => rs_back1 ?_))
  refine dl_istn wi_437_30 rfl (fun lv l3 t6 => ?_)
  have l0 := t6 _ _ (by decide) (Or.inl rfl) l0
  have l1 := t6 _ _ (by decide) (Or.inl rfl) l1
  refine rs_pure wi_437_31 rfl ?_
  refine rs_topi (v := 0) (by decide) ?_
  refine dl_ist wi_437_32 rfl (fun lv l4 t7 => ?_)
  have l0 := t7 _ _ (by decide) (Or.inl rfl) l0
  have l1 := t7 _ _ (by decide) (Or.inl rfl) l1
  have l3 := t7 _ _ (by decide) (Or.inl rfl) l3
  refine whl_ex (A := fun s8 : Int32 × cS => ∀ lv, rx_ld lv 0 = some (.ref 174) → rx_ld lv 1 = some (.int a1) → rx_ld lv 3 = some (.int v5) → rx_ld lv 4 = some (.int s8.1) → rs (rt_P sc fm) 437 F Lo 34 lv [] (hq false s8.2 y w) Q) (B := (fun x17 : cS => ∀ lv, rs (rt_P sc fm) 437 F Lo 89 lv [] (hq false x17 y w) Q)) ?_ ?_ _ _ (wp_bind h) _ l0 l1 l3 l4
  · intro s8 h lv l0 l1 l3 l4
    refine rs_ild wi_437_34 l4 ?_
    refine rs_aldn wi_437_36 l0 ?_
    refine dq_gr wi_437_37 wf_437_227 tf_174_63 ?_
    refine rs_ildn wi_437_40 l1 ?_
    obtain ⟨g9, h⟩ := wp_gd h
    refine dq_iald wi_437_41 t_225 g9 ?_
    refine rs_icge (tg := 89) wi_437_42 ⟨by decide, by decide⟩ (fun q => ?_) (fun q => ?_)
    ·
      have h := wp_pos h q
      exact h _
    ·
      have h := wp_neg h q
      refine rs_aldn wi_437_45 l0 ?_
      refine rs_ildn wi_437_46 l3 ?_
      refine rs_aldn wi_437_47 l0 ?_
      refine dq_gr wi_437_48 wf_437_231 tf_174_64 ?_
      refine rs_ildn wi_437_51 l1 ?_
      refine rs_pure wi_437_52 rfl ?_
      refine rs_topi (v := 4) (by decide) ?_
      refine rs_pure wi_437_53 rfl ?_
      refine rs_ild wi_437_54 l4 ?_
      refine rs_pure wi_437_56 rfl ?_
      obtain ⟨g10, h⟩ := wp_gd h
      refine dq_lald wi_437_57 t_226 g10 ?_
      refine rs_aldn wi_437_58 l0 ?_
      refine dq_gr wi_437_59 wf_437_234 tf_174_65 ?_
      refine rs_ildn wi_437_62 l1 ?_
      refine rs_pure wi_437_63 rfl ?_
      refine rs_topi (v := 4) (by decide) ?_
      refine rs_pure wi_437_64 rfl ?_
      refine rs_ild wi_437_65 l4 ?_
      refine rs_pure wi_437_67 rfl ?_
      obtain ⟨g11, h⟩ := wp_gd h
      refine dq_iald wi_437_68 t_227 g11 ?_
      refine rs_aldn wi_437_69 l0 ?_
      refine dq_gr wi_437_70 wf_437_237 tf_174_66 ?_
      refine rs_ildn wi_437_73 l1 ?_
      refine rs_pure wi_437_74 rfl ?_
      refine rs_topi (v := 4) (by decide) ?_
      refine rs_pure wi_437_75 rfl ?_
      refine rs_ild wi_437_76 l4 ?_
      refine rs_pure wi_437_78 rfl ?_
      obtain ⟨g12, h⟩ := wp_gd h
      refine dq_lald wi_437_79 t_228 g12 ?_
      refine rs_V wi_437_80 wc_437_561 rfl (dq_isa tf_174_0 wa_15_394) (Nat.le_trans (by decide) hF) (ml_le wm_394 (Nat.le_trans (by decide) hLo)) rfl (sp_394 hw (Nat.le_trans (by decide : 0 ≤ 2 - 1) (Nat.sub_le_sub_right hF 1)) (ml_sub wm_394 (Nat.le_trans (by decide : 0 ≤ 47 - 27) (Nat.sub_le_sub_right hLo 27))) (wp_bind h) (fun r13 h => rs_back0 ?_))
      obtain ⟨v15, e16, h⟩ := wp_lt h
      refine dl_inc wi_437_83 l4 rfl e16 (fun lv l4 t14 => ?_)
      have l0 := t14 _ _ (by decide) (Or.inl rfl) l0
      have l1 := t14 _ _ (by decide) (Or.inl rfl) l1
      have l3 := t14 _ _ (by decide) (Or.inl rfl) l3
      refine rs_goto (tg := 34) wi_437_86 ⟨by decide, by decide⟩ ?_
      exact h _ l0 l1 l3 l4
  ·
    intro x17 h lv
    exact rs_vret wi_437_89 wr_437 (hQ x17 h)
theorem wa_15_436 : rz_cn 15 (rx_yn (rt_P sc fm) 436).cls = true := (by decide +kernel : rz_cn 15 (rt_yn 436).cls = true)
theorem wa_15_437 : rz_cn 15 (rx_yn (rt_P sc fm) 437).cls = true := (by decide +kernel : rz_cn 15 (rt_yn 437).cls = true)
theorem wc_121_543 : rx_ct (rt_P sc fm) 121 543 = some (0, 392, 2) := (by decide +kernel : rt_ct 121 543 = some (0, 392, 2))
theorem wc_121_555 : rx_ct (rt_P sc fm) 121 555 = some (0, 393, 3) := (by decide +kernel : rt_ct 121 555 = some (0, 393, 3))
theorem wc_121_637 : rx_ct (rt_P sc fm) 121 637 = some (0, 133, 0) := (by decide +kernel : rt_ct 121 637 = some (0, 133, 0))
theorem wc_121_652 : rx_ct (rt_P sc fm) 121 652 = some (0, 109, 1) := (by decide +kernel : rt_ct 121 652 = some (0, 109, 1))
theorem wc_121_742 : rx_ct (rt_P sc fm) 121 742 = some (0, 433, 2) := (by decide +kernel : rt_ct 121 742 = some (0, 433, 2))
theorem wc_121_745 : rx_ct (rt_P sc fm) 121 745 = some (0, 434, 0) := (by decide +kernel : rt_ct 121 745 = some (0, 434, 0))
theorem wc_121_751 : rx_ct (rt_P sc fm) 121 751 = some (0, 436, 1) := (by decide +kernel : rt_ct 121 751 = some (0, 436, 1))
theorem wc_121_754 : rx_ct (rt_P sc fm) 121 754 = some (0, 437, 2) := (by decide +kernel : rt_ct 121 754 = some (0, 437, 2))
theorem wf_121_218 : rx_ft (rt_P sc fm) 121 218 = some (15, 60) := (by decide +kernel : rt_ft 121 218 = some (15, 60))
theorem wf_121_359 : rx_ft (rt_P sc fm) 121 359 = some (15, 2) := (by decide +kernel : rt_ft 121 359 = some (15, 2))
theorem wf_121_733 : rx_ft (rt_P sc fm) 121 733 = some (15, 82) := (by decide +kernel : rt_ft 121 733 = some (15, 82))
theorem wf_121_736 : rx_ft (rt_P sc fm) 121 736 = some (15, 80) := (by decide +kernel : rt_ft 121 736 = some (15, 80))
theorem wf_121_739 : rx_ft (rt_P sc fm) 121 739 = some (15, 81) := (by decide +kernel : rt_ft 121 739 = some (15, 81))
theorem wf_121_9 : rx_ft (rt_P sc fm) 121 9 = some (15, 1) := (by decide +kernel : rt_ft 121 9 = some (15, 1))
theorem wi_121_0 : ri (rt_P sc fm) 121 0 (.aload_n 0) (1) := ri_of (by decide +kernel) rfl
theorem wi_121_1 : ri (rt_P sc fm) 121 1 (.iconst 0) (2) := ri_of (by decide +kernel) rfl
theorem wi_121_10 : ri (rt_P sc fm) 121 10 (.putfield 739) (13) := ri_of (by decide +kernel) rfl
theorem wi_121_101 : ri (rt_P sc fm) 121 101 (.iaload) (102) := ri_of (by decide +kernel) rfl
theorem wi_121_102 : ri (rt_P sc fm) 121 102 (.sipush 255) (105) := ri_of (by decide +kernel) rfl
theorem wi_121_105 : ri (rt_P sc fm) 121 105 (.if_icmp .ne 7) (108) := ri_of (by decide +kernel) rfl
theorem wi_121_108 : ri (rt_P sc fm) 121 108 (.iconst 1) (109) := ri_of (by decide +kernel) rfl
theorem wi_121_109 : ri (rt_P sc fm) 121 109 (.goto 4) (112) := ri_of (by decide +kernel) rfl
theorem wi_121_112 : ri (rt_P sc fm) 121 112 (.iconst 0) (113) := ri_of (by decide +kernel) rfl
theorem wi_121_113 : ri (rt_P sc fm) 121 113 (.istore 6) (115) := ri_of (by decide +kernel) rfl
theorem wi_121_115 : ri (rt_P sc fm) 121 115 (.iload 6) (117) := ri_of (by decide +kernel) rfl
theorem wi_121_117 : ri (rt_P sc fm) 121 117 (.ifCond .eq 16) (120) := ri_of (by decide +kernel) rfl
theorem wi_121_120 : ri (rt_P sc fm) 121 120 (.aload_n 0) (121) := ri_of (by decide +kernel) rfl
theorem wi_121_121 : ri (rt_P sc fm) 121 121 (.sipush 255) (124) := ri_of (by decide +kernel) rfl
theorem wi_121_124 : ri (rt_P sc fm) 121 124 (.sipush 255) (127) := ri_of (by decide +kernel) rfl
theorem wi_121_127 : ri (rt_P sc fm) 121 127 (.invokevirtual 742) (130) := ri_of (by decide +kernel) rfl
theorem wi_121_13 : ri (rt_P sc fm) 121 13 (.aload_n 0) (14) := ri_of (by decide +kernel) rfl
theorem wi_121_130 : ri (rt_P sc fm) 121 130 (.goto 9) (133) := ri_of (by decide +kernel) rfl
theorem wi_121_133 : ri (rt_P sc fm) 121 133 (.aload_n 0) (134) := ri_of (by decide +kernel) rfl
theorem wi_121_134 : ri (rt_P sc fm) 121 134 (.iconst 0) (135) := ri_of (by decide +kernel) rfl
theorem wi_121_135 : ri (rt_P sc fm) 121 135 (.iconst 4) (136) := ri_of (by decide +kernel) rfl
theorem wi_121_136 : ri (rt_P sc fm) 121 136 (.invokevirtual 742) (139) := ri_of (by decide +kernel) rfl
theorem wi_121_139 : ri (rt_P sc fm) 121 139 (.istore 7) (141) := ri_of (by decide +kernel) rfl
theorem wi_121_14 : ri (rt_P sc fm) 121 14 (.iconst 0) (15) := ri_of (by decide +kernel) rfl
theorem wi_121_141 : ri (rt_P sc fm) 121 141 (.aload_n 0) (142) := ri_of (by decide +kernel) rfl
theorem wi_121_142 : ri (rt_P sc fm) 121 142 (.getfield 733) (145) := ri_of (by decide +kernel) rfl
theorem wi_121_145 : ri (rt_P sc fm) 121 145 (.ifCond .eq 6) (148) := ri_of (by decide +kernel) rfl
theorem wi_121_148 : ri (rt_P sc fm) 121 148 (.goto 60) (151) := ri_of (by decide +kernel) rfl
theorem wi_121_15 : ri (rt_P sc fm) 121 15 (.putfield 359) (18) := ri_of (by decide +kernel) rfl
theorem wi_121_151 : ri (rt_P sc fm) 121 151 (.aload_n 0) (152) := ri_of (by decide +kernel) rfl
theorem wi_121_152 : ri (rt_P sc fm) 121 152 (.sipush 1218) (155) := ri_of (by decide +kernel) rfl
theorem wi_121_155 : ri (rt_P sc fm) 121 155 (.lload 4) (157) := ri_of (by decide +kernel) rfl
theorem wi_121_157 : ri (rt_P sc fm) 121 157 (.iload 6) (159) := ri_of (by decide +kernel) rfl
theorem wi_121_159 : ri (rt_P sc fm) 121 159 (.invokevirtual 555) (162) := ri_of (by decide +kernel) rfl
theorem wi_121_162 : ri (rt_P sc fm) 121 162 (.iconst 0) (163) := ri_of (by decide +kernel) rfl
theorem wi_121_163 : ri (rt_P sc fm) 121 163 (.istore 8) (165) := ri_of (by decide +kernel) rfl
theorem wi_121_165 : ri (rt_P sc fm) 121 165 (.iload 8) (167) := ri_of (by decide +kernel) rfl
theorem wi_121_167 : ri (rt_P sc fm) 121 167 (.iload 7) (169) := ri_of (by decide +kernel) rfl
theorem wi_121_169 : ri (rt_P sc fm) 121 169 (.if_icmp .ge 33) (172) := ri_of (by decide +kernel) rfl
theorem wi_121_172 : ri (rt_P sc fm) 121 172 (.iload 6) (174) := ri_of (by decide +kernel) rfl
theorem wi_121_174 : ri (rt_P sc fm) 121 174 (.ifCond .ne 28) (177) := ri_of (by decide +kernel) rfl
theorem wi_121_177 : ri (rt_P sc fm) 121 177 (.aload_n 0) (178) := ri_of (by decide +kernel) rfl
theorem wi_121_178 : ri (rt_P sc fm) 121 178 (.getfield 733) (181) := ri_of (by decide +kernel) rfl
theorem wi_121_18 : ri (rt_P sc fm) 121 18 (.aload_n 0) (19) := ri_of (by decide +kernel) rfl
theorem wi_121_181 : ri (rt_P sc fm) 121 181 (.ifCond .ne 21) (184) := ri_of (by decide +kernel) rfl
theorem wi_121_184 : ri (rt_P sc fm) 121 184 (.aload_n 0) (185) := ri_of (by decide +kernel) rfl
theorem wi_121_185 : ri (rt_P sc fm) 121 185 (.aload_n 0) (186) := ri_of (by decide +kernel) rfl
theorem wi_121_186 : ri (rt_P sc fm) 121 186 (.sipush 1218) (189) := ri_of (by decide +kernel) rfl
theorem wi_121_189 : ri (rt_P sc fm) 121 189 (.iload_n 3) (190) := ri_of (by decide +kernel) rfl
theorem wi_121_19 : ri (rt_P sc fm) 121 19 (.iload_n 1) (20) := ri_of (by decide +kernel) rfl
theorem wi_121_190 : ri (rt_P sc fm) 121 190 (.invokevirtual 543) (193) := ri_of (by decide +kernel) rfl
theorem wi_121_193 : ri (rt_P sc fm) 121 193 (.invokevirtual 751) (196) := ri_of (by decide +kernel) rfl
theorem wi_121_196 : ri (rt_P sc fm) 121 196 (.iinc 8 1) (199) := ri_of (by decide +kernel) rfl
theorem wi_121_199 : ri (rt_P sc fm) 121 199 (.goto (-34)) (202) := ri_of (by decide +kernel) rfl
theorem wi_121_2 : ri (rt_P sc fm) 121 2 (.putfield 356) (5) := ri_of (by decide +kernel) rfl
theorem wi_121_20 : ri (rt_P sc fm) 121 20 (.invokevirtual 652) (23) := ri_of (by decide +kernel) rfl
theorem wi_121_202 : ri (rt_P sc fm) 121 202 (.iinc 3 1) (205) := ri_of (by decide +kernel) rfl
theorem wi_121_205 : ri (rt_P sc fm) 121 205 (.goto (-148)) (208) := ri_of (by decide +kernel) rfl
theorem wi_121_208 : ri (rt_P sc fm) 121 208 (.aload_n 0) (209) := ri_of (by decide +kernel) rfl
theorem wi_121_209 : ri (rt_P sc fm) 121 209 (.getfield 733) (212) := ri_of (by decide +kernel) rfl
theorem wi_121_212 : ri (rt_P sc fm) 121 212 (.ifCond .ne 14) (215) := ri_of (by decide +kernel) rfl
theorem wi_121_215 : ri (rt_P sc fm) 121 215 (.aload_n 0) (216) := ri_of (by decide +kernel) rfl
theorem wi_121_216 : ri (rt_P sc fm) 121 216 (.getfield 736) (219) := ri_of (by decide +kernel) rfl
theorem wi_121_219 : ri (rt_P sc fm) 121 219 (.aload_n 0) (220) := ri_of (by decide +kernel) rfl
theorem wi_121_220 : ri (rt_P sc fm) 121 220 (.getfield 739) (223) := ri_of (by decide +kernel) rfl
theorem wi_121_223 : ri (rt_P sc fm) 121 223 (.if_icmp .ge 12) (226) := ri_of (by decide +kernel) rfl
theorem wi_121_226 : ri (rt_P sc fm) 121 226 (.sipush (-1000)) (229) := ri_of (by decide +kernel) rfl
theorem wi_121_229 : ri (rt_P sc fm) 121 229 (.aload_n 0) (230) := ri_of (by decide +kernel) rfl
theorem wi_121_23 : ri (rt_P sc fm) 121 23 (.ifCond .ne 5) (26) := ri_of (by decide +kernel) rfl
theorem wi_121_230 : ri (rt_P sc fm) 121 230 (.getfield 736) (233) := ri_of (by decide +kernel) rfl
theorem wi_121_233 : ri (rt_P sc fm) 121 233 (.isub) (234) := ri_of (by decide +kernel) rfl
theorem wi_121_234 : ri (rt_P sc fm) 121 234 (.ireturn) (235) := ri_of (by decide +kernel) rfl
theorem wi_121_235 : ri (rt_P sc fm) 121 235 (.aload_n 0) (236) := ri_of (by decide +kernel) rfl
theorem wi_121_236 : ri (rt_P sc fm) 121 236 (.getfield 218) (239) := ri_of (by decide +kernel) rfl
theorem wi_121_239 : ri (rt_P sc fm) 121 239 (.iload_n 1) (240) := ri_of (by decide +kernel) rfl
theorem wi_121_240 : ri (rt_P sc fm) 121 240 (.iconst 0) (241) := ri_of (by decide +kernel) rfl
theorem wi_121_241 : ri (rt_P sc fm) 121 241 (.iastore) (242) := ri_of (by decide +kernel) rfl
theorem wi_121_242 : ri (rt_P sc fm) 121 242 (.iconst 0) (243) := ri_of (by decide +kernel) rfl
theorem wi_121_243 : ri (rt_P sc fm) 121 243 (.istore_n 3) (244) := ri_of (by decide +kernel) rfl
theorem wi_121_244 : ri (rt_P sc fm) 121 244 (.iload_n 3) (245) := ri_of (by decide +kernel) rfl
theorem wi_121_245 : ri (rt_P sc fm) 121 245 (.iload_n 2) (246) := ri_of (by decide +kernel) rfl
theorem wi_121_246 : ri (rt_P sc fm) 121 246 (.if_icmp .ge 22) (249) := ri_of (by decide +kernel) rfl
theorem wi_121_249 : ri (rt_P sc fm) 121 249 (.aload_n 0) (250) := ri_of (by decide +kernel) rfl
theorem wi_121_250 : ri (rt_P sc fm) 121 250 (.aload_n 0) (251) := ri_of (by decide +kernel) rfl
theorem wi_121_251 : ri (rt_P sc fm) 121 251 (.sipush 1218) (254) := ri_of (by decide +kernel) rfl
theorem wi_121_254 : ri (rt_P sc fm) 121 254 (.iload_n 3) (255) := ri_of (by decide +kernel) rfl
theorem wi_121_255 : ri (rt_P sc fm) 121 255 (.invokevirtual 543) (258) := ri_of (by decide +kernel) rfl
theorem wi_121_258 : ri (rt_P sc fm) 121 258 (.iload_n 1) (259) := ri_of (by decide +kernel) rfl
theorem wi_121_259 : ri (rt_P sc fm) 121 259 (.invokevirtual 754) (262) := ri_of (by decide +kernel) rfl
theorem wi_121_26 : ri (rt_P sc fm) 121 26 (.iconst (-1)) (27) := ri_of (by decide +kernel) rfl
theorem wi_121_262 : ri (rt_P sc fm) 121 262 (.iinc 3 1) (265) := ri_of (by decide +kernel) rfl
theorem wi_121_265 : ri (rt_P sc fm) 121 265 (.goto (-21)) (268) := ri_of (by decide +kernel) rfl
theorem wi_121_268 : ri (rt_P sc fm) 121 268 (.aload_n 0) (269) := ri_of (by decide +kernel) rfl
theorem wi_121_269 : ri (rt_P sc fm) 121 269 (.invokevirtual 637) (272) := ri_of (by decide +kernel) rfl
theorem wi_121_27 : ri (rt_P sc fm) 121 27 (.ireturn) (28) := ri_of (by decide +kernel) rfl
theorem wi_121_272 : ri (rt_P sc fm) 121 272 (.iload_n 2) (273) := ri_of (by decide +kernel) rfl
theorem wi_121_273 : ri (rt_P sc fm) 121 273 (.ireturn) (274) := ri_of (by decide +kernel) rfl
theorem wi_121_28 : ri (rt_P sc fm) 121 28 (.aload_n 0) (29) := ri_of (by decide +kernel) rfl
theorem wi_121_29 : ri (rt_P sc fm) 121 29 (.iconst 0) (30) := ri_of (by decide +kernel) rfl
theorem wi_121_30 : ri (rt_P sc fm) 121 30 (.putfield 736) (33) := ri_of (by decide +kernel) rfl
theorem wi_121_33 : ri (rt_P sc fm) 121 33 (.aload_n 0) (34) := ri_of (by decide +kernel) rfl
theorem wi_121_34 : ri (rt_P sc fm) 121 34 (.iconst 0) (35) := ri_of (by decide +kernel) rfl
theorem wi_121_35 : ri (rt_P sc fm) 121 35 (.putfield 733) (38) := ri_of (by decide +kernel) rfl
theorem wi_121_38 : ri (rt_P sc fm) 121 38 (.aload_n 0) (39) := ri_of (by decide +kernel) rfl
theorem wi_121_39 : ri (rt_P sc fm) 121 39 (.getfield 218) (42) := ri_of (by decide +kernel) rfl
theorem wi_121_42 : ri (rt_P sc fm) 121 42 (.sipush 1218) (45) := ri_of (by decide +kernel) rfl
theorem wi_121_45 : ri (rt_P sc fm) 121 45 (.iconst 0) (46) := ri_of (by decide +kernel) rfl
theorem wi_121_46 : ri (rt_P sc fm) 121 46 (.iastore) (47) := ri_of (by decide +kernel) rfl
theorem wi_121_47 : ri (rt_P sc fm) 121 47 (.aload_n 0) (48) := ri_of (by decide +kernel) rfl
theorem wi_121_48 : ri (rt_P sc fm) 121 48 (.iconst 0) (49) := ri_of (by decide +kernel) rfl
theorem wi_121_49 : ri (rt_P sc fm) 121 49 (.bipush 20) (51) := ri_of (by decide +kernel) rfl
theorem wi_121_5 : ri (rt_P sc fm) 121 5 (.aload_n 0) (6) := ri_of (by decide +kernel) rfl
theorem wi_121_51 : ri (rt_P sc fm) 121 51 (.invokevirtual 742) (54) := ri_of (by decide +kernel) rfl
theorem wi_121_54 : ri (rt_P sc fm) 121 54 (.istore_n 2) (55) := ri_of (by decide +kernel) rfl
theorem wi_121_55 : ri (rt_P sc fm) 121 55 (.iconst 0) (56) := ri_of (by decide +kernel) rfl
theorem wi_121_56 : ri (rt_P sc fm) 121 56 (.istore_n 3) (57) := ri_of (by decide +kernel) rfl
theorem wi_121_57 : ri (rt_P sc fm) 121 57 (.iload_n 3) (58) := ri_of (by decide +kernel) rfl
theorem wi_121_58 : ri (rt_P sc fm) 121 58 (.iload_n 2) (59) := ri_of (by decide +kernel) rfl
theorem wi_121_59 : ri (rt_P sc fm) 121 59 (.if_icmp .ge 149) (62) := ri_of (by decide +kernel) rfl
theorem wi_121_6 : ri (rt_P sc fm) 121 6 (.aload_n 0) (7) := ri_of (by decide +kernel) rfl
theorem wi_121_62 : ri (rt_P sc fm) 121 62 (.aload_n 0) (63) := ri_of (by decide +kernel) rfl
theorem wi_121_63 : ri (rt_P sc fm) 121 63 (.getfield 733) (66) := ri_of (by decide +kernel) rfl
theorem wi_121_66 : ri (rt_P sc fm) 121 66 (.ifCond .ne 142) (69) := ri_of (by decide +kernel) rfl
theorem wi_121_69 : ri (rt_P sc fm) 121 69 (.aload_n 0) (70) := ri_of (by decide +kernel) rfl
theorem wi_121_7 : ri (rt_P sc fm) 121 7 (.getfield 359) (10) := ri_of (by decide +kernel) rfl
theorem wi_121_70 : ri (rt_P sc fm) 121 70 (.invokevirtual 745) (73) := ri_of (by decide +kernel) rfl
theorem wi_121_73 : ri (rt_P sc fm) 121 73 (.lstore 4) (75) := ri_of (by decide +kernel) rfl
theorem wi_121_75 : ri (rt_P sc fm) 121 75 (.aload_n 0) (76) := ri_of (by decide +kernel) rfl
theorem wi_121_76 : ri (rt_P sc fm) 121 76 (.getfield 733) (79) := ri_of (by decide +kernel) rfl
theorem wi_121_79 : ri (rt_P sc fm) 121 79 (.ifCond .ne 33) (82) := ri_of (by decide +kernel) rfl
theorem wi_121_82 : ri (rt_P sc fm) 121 82 (.aload_n 0) (83) := ri_of (by decide +kernel) rfl
theorem wi_121_83 : ri (rt_P sc fm) 121 83 (.getfield 736) (86) := ri_of (by decide +kernel) rfl
theorem wi_121_86 : ri (rt_P sc fm) 121 86 (.aload_n 0) (87) := ri_of (by decide +kernel) rfl
theorem wi_121_87 : ri (rt_P sc fm) 121 87 (.getfield 739) (90) := ri_of (by decide +kernel) rfl
theorem wi_121_90 : ri (rt_P sc fm) 121 90 (.if_icmp .ge 22) (93) := ri_of (by decide +kernel) rfl
theorem wi_121_93 : ri (rt_P sc fm) 121 93 (.aload_n 0) (94) := ri_of (by decide +kernel) rfl
theorem wi_121_94 : ri (rt_P sc fm) 121 94 (.getfield 9) (97) := ri_of (by decide +kernel) rfl
theorem wi_121_97 : ri (rt_P sc fm) 121 97 (.aload_n 0) (98) := ri_of (by decide +kernel) rfl
theorem wi_121_98 : ri (rt_P sc fm) 121 98 (.getfield 736) (101) := ri_of (by decide +kernel) rfl
theorem wm_436 : rx_ml (rt_P sc fm) 436 = 9 := (by decide +kernel : rt_ml 436 = 9)
theorem wm_437 : rx_ml (rt_P sc fm) 437 = 5 := (by decide +kernel : rt_ml 437 = 5)
theorem wp_121_356 : rx_pt (rt_P sc fm) 121 356 = some (15, 0, .int) := (by decide +kernel : rt_pt 121 356 = some (15, 0, .int))
theorem wp_121_359 : rx_pt (rt_P sc fm) 121 359 = some (15, 2, .int) := (by decide +kernel : rt_pt 121 359 = some (15, 2, .int))
theorem wp_121_733 : rx_pt (rt_P sc fm) 121 733 = some (15, 82, .boolean) := (by decide +kernel : rt_pt 121 733 = some (15, 82, .boolean))
theorem wp_121_736 : rx_pt (rt_P sc fm) 121 736 = some (15, 80, .int) := (by decide +kernel : rt_pt 121 736 = some (15, 80, .int))
theorem wp_121_739 : rx_pt (rt_P sc fm) 121 739 = some (15, 81, .int) := (by decide +kernel : rt_pt 121 739 = some (15, 81, .int))
theorem wr_121 : rx_rt (rt_P sc fm) 121 = (some FieldType.int) := (by decide +kernel : rt_rt 121 = (some FieldType.int))
/-- MarkHouseModel.give(I)I -/
def d_121 (n : Nat) (a1 : Int32) (c : cS) : Option (Int32 × cS) :=
  lt (pI c 174 0 0) (fun c1 =>
  lt (pI c1 174 81 (c1.1 174 2)) (fun c3 =>
  lt (pI c3 174 2 0) (fun c5 =>
  Option.bind (d_109 n a1 c5) (fun v7 =>
  if v7 = 0 then
    some ((-1), c5)
  else
    lt (pI c5 174 80 0) (fun c8 =>
    lt (pI c8 174 82 0) (fun c10 =>
    if ib 1218 1219 then
    lt (pI c10 222 (ix 1218) 0) (fun c13 =>
    Option.bind (d_433 n 0 20 c13) (fun r15 =>
    Option.bind (whl (R := (cS) ⊕ (cS)) (fun s18 : Int32 × cS =>
      if r15.1 ≤ s18.1 then
        some (.inr (.inl s18.2))
      else
        if (s18.2.1 174 82) = 0 then
          Option.bind (d_434 n s18.2) (fun r19 =>
          jn (fun p21 : Int32 =>
            jn (fun p23 : Int32 × cS =>
              if (p23.2.1 174 82) = 0 then
                Option.bind (d_393 n 1218 r19.1 p21 p23.2) (fun r25 =>
                Option.bind (whl (R := (cS)) (fun s27 : Int32 × cS =>
                  if p23.1 ≤ s27.1 then
                    some (.inr s27.2)
                  else
                    if p21 = 0 then
                      if (s27.2.1 174 82) = 0 then
                        Option.bind (d_392 n 1218 s18.1) (fun v28 =>
                        Option.bind (d_436 n v28 s27.2) (fun r29 =>
                        lt (s27.1 + 1 : Int32) (fun v31 =>
                        some (.inl (v31, r29)))))
                      else
                        some (.inr s27.2)
                    else
                      some (.inr s27.2)) n (0, r25))
                (fun x33 : cS =>
                  lt (s18.1 + 1 : Int32) (fun v35 =>
                  some (.inl (v35, x33)))))
              else
                some (.inr (.inr p23.2)))
            (fun j139 =>
            if p21 = 0 then
              Option.bind (d_433 n 0 4 r19.2) (fun r37 =>
              j139 (r37.1, r37.2))
            else
              Option.bind (d_433 n 255 255 r19.2) (fun r38 =>
              j139 (r38.1, r38.2))))
          (fun j113 =>
          jn (fun p39 : Unit =>
            j113 0)
          (fun j112 =>
          if (r19.2.1 174 82) = 0 then
            if (r19.2.1 174 81) ≤ (r19.2.1 174 80) then
              j112 ()
            else
              if ib (r19.2.1 174 80) 4000 then
              if (r19.2.1 175 (ix (r19.2.1 174 80))) = 255 then
                j113 1
              else
                j112 ()
              else none
          else
            j112 ())))
        else
          some (.inr (.inl s18.2))) n (0, r15.2))
    (Sum.elim (fun x41 : cS =>
      jn (fun p42 : Unit =>
        some (((-1000) - (x41.1 174 80)), x41))
      (fun j226 =>
      if (x41.1 174 82) = 0 then
        if (x41.1 174 81) ≤ (x41.1 174 80) then
          if ib a1 1219 then
          lt (pI x41 222 (ix a1) 0) (fun c44 =>
          Option.bind (whl (R := (cS)) (fun s47 : Int32 × cS =>
            if r15.1 ≤ s47.1 then
              some (.inr s47.2)
            else
              Option.bind (d_392 n 1218 s47.1) (fun v48 =>
              Option.bind (d_437 n v48 a1 s47.2) (fun r49 =>
              lt (s47.1 + 1 : Int32) (fun v51 =>
              some (.inl (v51, r49)))))) n (0, c44))
          (fun x53 : cS =>
            Option.bind (d_133 n x53) (fun r54 =>
            some (r15.1, r54))))
          else none
        else
          j226 ()
      else
        j226 ()))
    (fun x55 : cS =>
      jn (fun p56 : Unit =>
        some (((-1000) - (x55.1 174 80)), x55))
      (fun j226 =>
      if (x55.1 174 82) = 0 then
        if (x55.1 174 81) ≤ (x55.1 174 80) then
          if ib a1 1219 then
          lt (pI x55 222 (ix a1) 0) (fun c58 =>
          Option.bind (whl (R := (cS)) (fun s61 : Int32 × cS =>
            if r15.1 ≤ s61.1 then
              some (.inr s61.2)
            else
              Option.bind (d_392 n 1218 s61.1) (fun v62 =>
              Option.bind (d_437 n v62 a1 s61.2) (fun r63 =>
              lt (s61.1 + 1 : Int32) (fun v65 =>
              some (.inl (v65, r63)))))) n (0, c58))
          (fun x67 : cS =>
            Option.bind (d_133 n x67) (fun r68 =>
            some (r15.1, r68))))
          else none
        else
          j226 ()
      else
        j226 ())))))
    else none))))))
set_option maxRecDepth 100000 in
set_option maxHeartbeats 4000000 in
theorem sp_121 {F Lo n : Nat} {a1 : Int32} {c y : cS} {w : cW} {K : Int32 × cS → Prop} {Q : ((Option Value) ⊕ String) → List va_E → Prop} (hw : rOK fm w) (hF : 3 ≤ F) (hLo : 75 ≤ Lo)  (h : wp (d_121 n a1 c) K) (hQ : ∀ r, K r → Q (.inl (some (.int r.1))) (hq false r.2 y w)) : rs (rt_P sc fm) 121 F Lo 0 [(0, .ref 174), (1, .int a1)] [] (hq false c y w) Q := by
  unfold d_121 at h
  obtain ⟨lv, elv⟩ : ∃ lv : rx_L, lv = [(0, .ref 174), (1, .int a1)] := ⟨_, rfl⟩
  rw [← elv]
  have l0 : rx_ld lv 0 = some (.ref 174) := by rw [elv]; rfl
  have l1 : rx_ld lv 1 = some (.int a1) := by rw [elv]; rfl
  refine rs_aldn wi_121_0 l0 ?_
  refine rs_pure wi_121_1 rfl ?_
  refine rs_topi (v := 0) (by decide) ?_
  obtain ⟨c1, e2, h⟩ := wp_lt h
  refine dq_pi wi_121_2 wp_121_356 tf_174_0 rfl rfl e2 ?_
  refine rs_aldn wi_121_5 l0 ?_
  refine rs_aldn wi_121_6 l0 ?_
  refine dq_gi wi_121_7 wf_121_359 tf_174_2 ?_
  obtain ⟨c3, e4, h⟩ := wp_lt h
  refine dq_pi wi_121_10 wp_121_739 tf_174_81 rfl rfl e4 ?_
  refine rs_aldn wi_121_13 l0 ?_
  refine rs_pure wi_121_14 rfl ?_
  refine rs_topi (v := 0) (by decide) ?_
  obtain ⟨c5, e6, h⟩ := wp_lt h
  refine dq_pi wi_121_15 wp_121_359 tf_174_2 rfl rfl e6 ?_
  refine rs_aldn wi_121_18 l0 ?_
  refine rs_ildn wi_121_19 l1 ?_
  refine rs_V wi_121_20 wc_121_652 rfl (dq_isa tf_174_0 wa_15_109) (Nat.le_trans (by decide) hF) (ml_le wm_109 (Nat.le_trans (by decide) hLo)) rfl (sp_109 hw (Nat.le_trans (by decide : 0 ≤ 3 - 1) (Nat.sub_le_sub_right hF 1)) (ml_sub wm_109 (Nat.le_trans (by decide : 0 ≤ 75 - 24) (Nat.sub_le_sub_right hLo 24))) (wp_bind h) (fun v7 h => rs_back1 ?_))
  refine rs_ifne (tg := 28) wi_121_23 ⟨by decide, by decide⟩ (fun q => ?_) (fun q => ?_)
  ·
    have h := wp_neg h q
    refine rs_aldn wi_121_28 l0 ?_
    refine rs_pure wi_121_29 rfl ?_
    refine rs_topi (v := 0) (by decide) ?_
    obtain ⟨c8, e9, h⟩ := wp_lt h
    refine dq_pi wi_121_30 wp_121_736 tf_174_80 rfl rfl e9 ?_
    refine rs_aldn wi_121_33 l0 ?_
    refine rs_pure wi_121_34 rfl ?_
    refine rs_topi (v := 0) (by decide) ?_
    obtain ⟨c10, e11, h⟩ := wp_lt h
    refine dq_pi wi_121_35 wp_121_733 tf_174_82 (nb_n (by decide)) (nb_f (by decide)) e11 ?_
    refine rs_aldn wi_121_38 l0 ?_
    refine dq_gr wi_121_39 wf_121_218 tf_174_60 ?_
    refine rs_pure wi_121_42 rfl ?_
    refine rs_topi (v := 1218) (by decide) ?_
    refine rs_pure wi_121_45 rfl ?_
    refine rs_topi (v := 0) (by decide) ?_
    obtain ⟨g12, h⟩ := wp_gd h
    obtain ⟨c13, e14, h⟩ := wp_lt h
    refine dq_iast wi_121_46 t_222 g12 e14 ?_
    refine rs_aldn wi_121_47 l0 ?_
    refine rs_pure wi_121_48 rfl ?_
    refine rs_topi (v := 0) (by decide) ?_
    refine rs_pure wi_121_49 rfl ?_
    refine rs_topi (v := 20) (by decide) ?_
    refine rs_V wi_121_51 wc_121_742 rfl (dq_isa tf_174_0 wa_15_433) (Nat.le_trans (by decide) hF) (ml_le wm_433 (Nat.le_trans (by decide) hLo)) rfl (sp_433 hw (Nat.le_trans (by decide : 0 ≤ 3 - 1) (Nat.sub_le_sub_right hF 1)) (ml_sub wm_433 (Nat.le_trans (by decide : 0 ≤ 75 - 22) (Nat.sub_le_sub_right hLo 22))) (wp_bind h) (fun r15 h => rs_back1 ?_))
    refine dl_istn wi_121_54 rfl (fun lv l2 t16 => ?_)
    have l0 := t16 _ _ (by decide) (Or.inl rfl) l0
    have l1 := t16 _ _ (by decide) (Or.inl rfl) l1
    refine rs_pure wi_121_55 rfl ?_
    refine rs_topi (v := 0) (by decide) ?_
    refine dl_istn wi_121_56 rfl (fun lv l3 t17 => ?_)
    have l0 := t17 _ _ (by decide) (Or.inl rfl) l0
    have l1 := t17 _ _ (by decide) (Or.inl rfl) l1
    have l2 := t17 _ _ (by decide) (Or.inl rfl) l2
    refine whl_ex (A := fun s18 : Int32 × cS => ∀ lv, rx_ld lv 0 = some (.ref 174) → rx_ld lv 1 = some (.int a1) → rx_ld lv 2 = some (.int r15.1) → rx_ld lv 3 = some (.int s18.1) → rs (rt_P sc fm) 121 F Lo 57 lv [] (hq false s18.2 y w) Q) (B := (Sum.elim (fun x41 : cS => ∀ lv, rx_ld lv 0 = some (.ref 174) → rx_ld lv 1 = some (.int a1) → rx_ld lv 2 = some (.int r15.1) → rs (rt_P sc fm) 121 F Lo 208 lv [] (hq false x41 y w) Q) (fun x55 : cS => ∀ lv, rx_ld lv 0 = some (.ref 174) → rx_ld lv 1 = some (.int a1) → rx_ld lv 2 = some (.int r15.1) → rs (rt_P sc fm) 121 F Lo 148 lv [] (hq false x55 y w) Q))) ?_ ?_ _ _ (wp_bind h) _ l0 l1 l2 l3
    · intro s18 h lv l0 l1 l2 l3
      refine rs_ildn wi_121_57 l3 ?_
      refine rs_ildn wi_121_58 l2 ?_
      refine rs_icge (tg := 208) wi_121_59 ⟨by decide, by decide⟩ (fun q => ?_) (fun q => ?_)
      ·
        have h := wp_pos h q
        exact h _ l0 l1 l2
      ·
        have h := wp_neg h q
        refine rs_aldn wi_121_62 l0 ?_
        refine dq_gi wi_121_63 wf_121_733 tf_174_82 ?_
        refine rs_ifne (tg := 208) wi_121_66 ⟨by decide, by decide⟩ (fun q => ?_) (fun q => ?_)
        ·
          have h := wp_neg h q
          exact h _ l0 l1 l2
        ·
          have h := wp_pos h q
          refine rs_aldn wi_121_69 l0 ?_
          refine rs_V wi_121_70 wc_121_745 rfl (dq_isa tf_174_0 wa_15_434) (Nat.le_trans (by decide) hF) (ml_le wm_434 (Nat.le_trans (by decide) hLo)) rfl (sp_434 hw (Nat.le_trans (by decide : 1 ≤ 3 - 1) (Nat.sub_le_sub_right hF 1)) (ml_sub wm_434 (Nat.le_trans (by decide : 22 ≤ 75 - 25) (Nat.sub_le_sub_right hLo 25))) (wp_bind h) (fun r19 h => rs_back1 ?_))
          refine dl_lst wi_121_73 rfl (fun lv l4 t20 => ?_)
          have l0 := t20 _ _ (by decide) (by decide) (Or.inl rfl) l0
          have l1 := t20 _ _ (by decide) (by decide) (Or.inl rfl) l1
          have l2 := t20 _ _ (by decide) (by decide) (Or.inl rfl) l2
          have l3 := t20 _ _ (by decide) (by decide) (Or.inl rfl) l3
          refine rs_aldn wi_121_75 l0 ?_
          refine dq_gi wi_121_76 wf_121_733 tf_174_82 ?_
          refine wp_jn (B := fun p21 : Int32 => ∀ lv, rx_ld lv 0 = some (.ref 174) → rx_ld lv 1 = some (.int a1) → rx_ld lv 2 = some (.int r15.1) → rx_ld lv 3 = some (.int s18.1) → rx_ld lv 4 = some (.long r19.1) → rs (rt_P sc fm) 121 F Lo 113 lv [.int p21] (hq false r19.2 y w) Q) h (fun p21 h lv l0 l1 l2 l3 l4 => ?_) (fun j113 hj113 h => ?_)
          ·
            refine dl_ist wi_121_113 rfl (fun lv l6 t22 => ?_)
            have l0 := t22 _ _ (by decide) (Or.inl rfl) l0
            have l1 := t22 _ _ (by decide) (Or.inl rfl) l1
            have l2 := t22 _ _ (by decide) (Or.inl rfl) l2
            have l3 := t22 _ _ (by decide) (Or.inl rfl) l3
            have l4 := t22 _ _ (by decide) (Or.inr (by decide)) l4
            refine rs_ild wi_121_115 l6 ?_
            refine wp_jn (B := fun p23 : Int32 × cS => ∀ lv, rx_ld lv 0 = some (.ref 174) → rx_ld lv 1 = some (.int a1) → rx_ld lv 2 = some (.int r15.1) → rx_ld lv 3 = some (.int s18.1) → rx_ld lv 4 = some (.long r19.1) → rx_ld lv 6 = some (.int p21) → rs (rt_P sc fm) 121 F Lo 139 lv [.int p23.1] (hq false p23.2 y w) Q) h (fun p23 h lv l0 l1 l2 l3 l4 l6 => ?_) (fun j139 hj139 h => ?_)
            ·
              refine dl_ist wi_121_139 rfl (fun lv l7 t24 => ?_)
              have l0 := t24 _ _ (by decide) (Or.inl rfl) l0
              have l1 := t24 _ _ (by decide) (Or.inl rfl) l1
              have l2 := t24 _ _ (by decide) (Or.inl rfl) l2
              have l3 := t24 _ _ (by decide) (Or.inl rfl) l3
              have l4 := t24 _ _ (by decide) (Or.inr (by decide)) l4
              have l6 := t24 _ _ (by decide) (Or.inl rfl) l6
              refine rs_aldn wi_121_141 l0 ?_
              refine dq_gi wi_121_142 wf_121_733 tf_174_82 ?_
              refine rs_ifeq (tg := 151) wi_121_145 ⟨by decide, by decide⟩ (fun q => ?_) (fun q => ?_)
              ·
                have h := wp_pos h q
                refine rs_aldn wi_121_151 l0 ?_
                refine rs_pure wi_121_152 rfl ?_
                refine rs_topi (v := 1218) (by decide) ?_
                refine rs_lld wi_121_155 l4 ?_
                refine rs_ild wi_121_157 l6 ?_
                refine rs_V wi_121_159 wc_121_555 rfl (dq_isa tf_174_0 wa_15_393) (Nat.le_trans (by decide) hF) (ml_le wm_393 (Nat.le_trans (by decide) hLo)) rfl (sp_393 hw (Nat.le_trans (by decide : 1 ≤ 3 - 1) (Nat.sub_le_sub_right hF 1)) (ml_sub wm_393 (Nat.le_trans (by decide : 22 ≤ 75 - 25) (Nat.sub_le_sub_right hLo 25))) (wp_bind h) (fun r25 h => rs_back0 ?_))
                refine rs_pure wi_121_162 rfl ?_
                refine rs_topi (v := 0) (by decide) ?_
                refine dl_ist wi_121_163 rfl (fun lv l8 t26 => ?_)
                have l0 := t26 _ _ (by decide) (Or.inl rfl) l0
                have l1 := t26 _ _ (by decide) (Or.inl rfl) l1
                have l2 := t26 _ _ (by decide) (Or.inl rfl) l2
                have l3 := t26 _ _ (by decide) (Or.inl rfl) l3
                have l6 := t26 _ _ (by decide) (Or.inl rfl) l6
                have l7 := t26 _ _ (by decide) (Or.inl rfl) l7
                refine whl_ex (A := fun s27 : Int32 × cS => ∀ lv, rx_ld lv 0 = some (.ref 174) → rx_ld lv 1 = some (.int a1) → rx_ld lv 2 = some (.int r15.1) → rx_ld lv 3 = some (.int s18.1) → rx_ld lv 6 = some (.int p21) → rx_ld lv 7 = some (.int p23.1) → rx_ld lv 8 = some (.int s27.1) → rs (rt_P sc fm) 121 F Lo 165 lv [] (hq false s27.2 y w) Q) (B := (fun x33 : cS => ∀ lv, rx_ld lv 0 = some (.ref 174) → rx_ld lv 1 = some (.int a1) → rx_ld lv 2 = some (.int r15.1) → rx_ld lv 3 = some (.int s18.1) → rs (rt_P sc fm) 121 F Lo 202 lv [] (hq false x33 y w) Q)) ?_ ?_ _ _ (wp_bind h) _ l0 l1 l2 l3 l6 l7 l8
                · intro s27 h lv l0 l1 l2 l3 l6 l7 l8
                  refine rs_ild wi_121_165 l8 ?_
                  refine rs_ild wi_121_167 l7 ?_
                  refine rs_icge (tg := 202) wi_121_169 ⟨by decide, by decide⟩ (fun q => ?_) (fun q => ?_)
                  ·
                    have h := wp_pos h q
                    exact h _ l0 l1 l2 l3
                  ·
                    have h := wp_neg h q
                    refine rs_ild wi_121_172 l6 ?_
                    refine rs_ifne (tg := 202) wi_121_174 ⟨by decide, by decide⟩ (fun q => ?_) (fun q => ?_)
                    ·
                      have h := wp_neg h q
                      exact h _ l0 l1 l2 l3
                    ·
                      have h := wp_pos h q
                      refine rs_aldn wi_121_177 l0 ?_
                      refine dq_gi wi_121_178 wf_121_733 tf_174_82 ?_
                      refine rs_ifne (tg := 202) wi_121_181 ⟨by decide, by decide⟩ (fun q => ?_) (fun q => ?_)
                      ·
                        have h := wp_neg h q
                        exact h _ l0 l1 l2 l3
                      ·
                        have h := wp_pos h q
                        refine rs_aldn wi_121_184 l0 ?_
                        refine rs_aldn wi_121_185 l0 ?_
                        refine rs_pure wi_121_186 rfl ?_
                        refine rs_topi (v := 1218) (by decide) ?_
                        refine rs_ildn wi_121_189 l3 ?_
                        refine rs_V wi_121_190 wc_121_543 rfl (dq_isa tf_174_0 wa_15_392) (Nat.le_trans (by decide) hF) (ml_le wm_392 (Nat.le_trans (by decide) hLo)) rfl (sp_392 (Nat.le_trans (by decide : 0 ≤ 3 - 1) (Nat.sub_le_sub_right hF 1)) (ml_sub wm_392 (Nat.le_trans (by decide : 0 ≤ 75 - 22) (Nat.sub_le_sub_right hLo 22))) (wp_bind h) (fun v28 h => rs_back1 ?_))
                        refine rs_V wi_121_193 wc_121_751 rfl (dq_isa tf_174_0 wa_15_436) (Nat.le_trans (by decide) hF) (ml_le wm_436 (Nat.le_trans (by decide) hLo)) rfl (sp_436 hw (Nat.le_trans (by decide : 2 ≤ 3 - 1) (Nat.sub_le_sub_right hF 1)) (ml_sub wm_436 (Nat.le_trans (by decide : 47 ≤ 75 - 28) (Nat.sub_le_sub_right hLo 28))) (wp_bind h) (fun r29 h => rs_back0 ?_))
                        obtain ⟨v31, e32, h⟩ := wp_lt h
                        refine dl_inc wi_121_196 l8 rfl e32 (fun lv l8 t30 => ?_)
                        have l0 := t30 _ _ (by decide) (Or.inl rfl) l0
                        have l1 := t30 _ _ (by decide) (Or.inl rfl) l1
                        have l2 := t30 _ _ (by decide) (Or.inl rfl) l2
                        have l3 := t30 _ _ (by decide) (Or.inl rfl) l3
                        have l6 := t30 _ _ (by decide) (Or.inl rfl) l6
                        have l7 := t30 _ _ (by decide) (Or.inl rfl) l7
                        refine rs_goto (tg := 165) wi_121_199 ⟨by decide, by decide⟩ ?_
                        exact h _ l0 l1 l2 l3 l6 l7 l8
                ·
                  intro x33 h lv l0 l1 l2 l3
                  obtain ⟨v35, e36, h⟩ := wp_lt h
                  refine dl_inc wi_121_202 l3 rfl e36 (fun lv l3 t34 => ?_)
                  have l0 := t34 _ _ (by decide) (Or.inl rfl) l0
                  have l1 := t34 _ _ (by decide) (Or.inl rfl) l1
                  have l2 := t34 _ _ (by decide) (Or.inl rfl) l2
                  refine rs_goto (tg := 57) wi_121_205 ⟨by decide, by decide⟩ ?_
                  exact h _ l0 l1 l2 l3
              ·
                have h := wp_neg h q
                exact h _ l0 l1 l2
            refine rs_ifeq (tg := 133) wi_121_117 ⟨by decide, by decide⟩ (fun q => ?_) (fun q => ?_)
            ·
              have h := wp_pos h q
              refine rs_aldn wi_121_133 l0 ?_
              refine rs_pure wi_121_134 rfl ?_
              refine rs_topi (v := 0) (by decide) ?_
              refine rs_pure wi_121_135 rfl ?_
              refine rs_topi (v := 4) (by decide) ?_
              refine rs_V wi_121_136 wc_121_742 rfl (dq_isa tf_174_0 wa_15_433) (Nat.le_trans (by decide) hF) (ml_le wm_433 (Nat.le_trans (by decide) hLo)) rfl (sp_433 hw (Nat.le_trans (by decide : 0 ≤ 3 - 1) (Nat.sub_le_sub_right hF 1)) (ml_sub wm_433 (Nat.le_trans (by decide : 0 ≤ 75 - 22) (Nat.sub_le_sub_right hLo 22))) (wp_bind h) (fun r37 h => rs_back1 ?_))
              exact hj139 _ h _ l0 l1 l2 l3 l4 l6
            ·
              have h := wp_neg h q
              refine rs_aldn wi_121_120 l0 ?_
              refine rs_pure wi_121_121 rfl ?_
              refine rs_topi (v := 255) (by decide) ?_
              refine rs_pure wi_121_124 rfl ?_
              refine rs_topi (v := 255) (by decide) ?_
              refine rs_V wi_121_127 wc_121_742 rfl (dq_isa tf_174_0 wa_15_433) (Nat.le_trans (by decide) hF) (ml_le wm_433 (Nat.le_trans (by decide) hLo)) rfl (sp_433 hw (Nat.le_trans (by decide : 0 ≤ 3 - 1) (Nat.sub_le_sub_right hF 1)) (ml_sub wm_433 (Nat.le_trans (by decide : 0 ≤ 75 - 22) (Nat.sub_le_sub_right hLo 22))) (wp_bind h) (fun r38 h => rs_back1 ?_))
              refine rs_goto (tg := 139) wi_121_130 ⟨by decide, by decide⟩ ?_
              exact hj139 _ h _ l0 l1 l2 l3 l4 l6
          refine wp_jn (B := fun p39 : Unit => ∀ lv, rx_ld lv 0 = some (.ref 174) → rx_ld lv 1 = some (.int a1) → rx_ld lv 2 = some (.int r15.1) → rx_ld lv 3 = some (.int s18.1) → rx_ld lv 4 = some (.long r19.1) → rs (rt_P sc fm) 121 F Lo 112 lv [] (hq false r19.2 y w) Q) h (fun p39 h lv l0 l1 l2 l3 l4 => ?_) (fun j112 hj112 h => ?_)
          ·
            refine rs_pure wi_121_112 rfl ?_
            refine rs_topi (v := 0) (by decide) ?_
            exact hj113 _ h _ l0 l1 l2 l3 l4
          refine rs_ifne (tg := 112) wi_121_79 ⟨by decide, by decide⟩ (fun q => ?_) (fun q => ?_)
          ·
            have h := wp_neg h q
            exact hj112 _ h _ l0 l1 l2 l3 l4
          ·
            have h := wp_pos h q
            refine rs_aldn wi_121_82 l0 ?_
            refine dq_gi wi_121_83 wf_121_736 tf_174_80 ?_
            refine rs_aldn wi_121_86 l0 ?_
            refine dq_gi wi_121_87 wf_121_739 tf_174_81 ?_
            refine rs_icge (tg := 112) wi_121_90 ⟨by decide, by decide⟩ (fun q => ?_) (fun q => ?_)
            ·
              have h := wp_pos h q
              exact hj112 _ h _ l0 l1 l2 l3 l4
            ·
              have h := wp_neg h q
              refine rs_aldn wi_121_93 l0 ?_
              refine dq_gr wi_121_94 wf_121_9 tf_174_1 ?_
              refine rs_aldn wi_121_97 l0 ?_
              refine dq_gi wi_121_98 wf_121_736 tf_174_80 ?_
              obtain ⟨g40, h⟩ := wp_gd h
              refine dq_iald wi_121_101 t_175 g40 ?_
              refine rs_pure wi_121_102 rfl ?_
              refine rs_topi (v := 255) (by decide) ?_
              refine rs_icne (tg := 112) wi_121_105 ⟨by decide, by decide⟩ (fun q => ?_) (fun q => ?_)
              ·
                have h := wp_neg h q
                exact hj112 _ h _ l0 l1 l2 l3 l4
              ·
                have h := wp_pos h q
                refine rs_pure wi_121_108 rfl ?_
                refine rs_topi (v := 1) (by decide) ?_
                refine rs_goto (tg := 113) wi_121_109 ⟨by decide, by decide⟩ ?_
                exact hj113 _ h _ l0 l1 l2 l3 l4
    ·
      refine sum_all ?_ ?_
      ·
        intro x41 h lv l0 l1 l2
        have h := wp_inl h
        refine rs_aldn wi_121_208 l0 ?_
        refine dq_gi wi_121_209 wf_121_733 tf_174_82 ?_
        refine wp_jn (B := fun p42 : Unit => ∀ lv, rx_ld lv 0 = some (.ref 174) → rs (rt_P sc fm) 121 F Lo 226 lv [] (hq false x41 y w) Q) h (fun p42 h lv l0 => ?_) (fun j226 hj226 h => ?_)
        ·
          refine rs_pure wi_121_226 rfl ?_
          refine rs_topi (v := (-1000)) (by decide) ?_
          refine rs_aldn wi_121_229 l0 ?_
          refine dq_gi wi_121_230 wf_121_736 tf_174_80 ?_
          refine rs_pure wi_121_233 rfl ?_
          exact rs_iret wi_121_234 wr_121 rfl (hQ (((-1000) - (x41.1 174 80)), x41) h)
        refine rs_ifne (tg := 226) wi_121_212 ⟨by decide, by decide⟩ (fun q => ?_) (fun q => ?_)
        ·
          have h := wp_neg h q
          exact hj226 _ h _ l0
        ·
          have h := wp_pos h q
          refine rs_aldn wi_121_215 l0 ?_
          refine dq_gi wi_121_216 wf_121_736 tf_174_80 ?_
          refine rs_aldn wi_121_219 l0 ?_
          refine dq_gi wi_121_220 wf_121_739 tf_174_81 ?_
          refine rs_icge (tg := 235) wi_121_223 ⟨by decide, by decide⟩ (fun q => ?_) (fun q => ?_)
          ·
            have h := wp_pos h q
            refine rs_aldn wi_121_235 l0 ?_
            refine dq_gr wi_121_236 wf_121_218 tf_174_60 ?_
            refine rs_ildn wi_121_239 l1 ?_
            refine rs_pure wi_121_240 rfl ?_
            refine rs_topi (v := 0) (by decide) ?_
            obtain ⟨g43, h⟩ := wp_gd h
            obtain ⟨c44, e45, h⟩ := wp_lt h
            refine dq_iast wi_121_241 t_222 g43 e45 ?_
            refine rs_pure wi_121_242 rfl ?_
            refine rs_topi (v := 0) (by decide) ?_
            refine dl_istn wi_121_243 rfl (fun lv l3 t46 => ?_)
            have l0 := t46 _ _ (by decide) (Or.inl rfl) l0
            have l1 := t46 _ _ (by decide) (Or.inl rfl) l1
            have l2 := t46 _ _ (by decide) (Or.inl rfl) l2
            refine whl_ex (A := fun s47 : Int32 × cS => ∀ lv, rx_ld lv 0 = some (.ref 174) → rx_ld lv 1 = some (.int a1) → rx_ld lv 2 = some (.int r15.1) → rx_ld lv 3 = some (.int s47.1) → rs (rt_P sc fm) 121 F Lo 244 lv [] (hq false s47.2 y w) Q) (B := (fun x53 : cS => ∀ lv, rx_ld lv 0 = some (.ref 174) → rx_ld lv 2 = some (.int r15.1) → rs (rt_P sc fm) 121 F Lo 268 lv [] (hq false x53 y w) Q)) ?_ ?_ _ _ (wp_bind h) _ l0 l1 l2 l3
            · intro s47 h lv l0 l1 l2 l3
              refine rs_ildn wi_121_244 l3 ?_
              refine rs_ildn wi_121_245 l2 ?_
              refine rs_icge (tg := 268) wi_121_246 ⟨by decide, by decide⟩ (fun q => ?_) (fun q => ?_)
              ·
                have h := wp_pos h q
                exact h _ l0 l2
              ·
                have h := wp_neg h q
                refine rs_aldn wi_121_249 l0 ?_
                refine rs_aldn wi_121_250 l0 ?_
                refine rs_pure wi_121_251 rfl ?_
                refine rs_topi (v := 1218) (by decide) ?_
                refine rs_ildn wi_121_254 l3 ?_
                refine rs_V wi_121_255 wc_121_543 rfl (dq_isa tf_174_0 wa_15_392) (Nat.le_trans (by decide) hF) (ml_le wm_392 (Nat.le_trans (by decide) hLo)) rfl (sp_392 (Nat.le_trans (by decide : 0 ≤ 3 - 1) (Nat.sub_le_sub_right hF 1)) (ml_sub wm_392 (Nat.le_trans (by decide : 0 ≤ 75 - 22) (Nat.sub_le_sub_right hLo 22))) (wp_bind h) (fun v48 h => rs_back1 ?_))
                refine rs_ildn wi_121_258 l1 ?_
                refine rs_V wi_121_259 wc_121_754 rfl (dq_isa tf_174_0 wa_15_437) (Nat.le_trans (by decide) hF) (ml_le wm_437 (Nat.le_trans (by decide) hLo)) rfl (sp_437 hw (Nat.le_trans (by decide : 2 ≤ 3 - 1) (Nat.sub_le_sub_right hF 1)) (ml_sub wm_437 (Nat.le_trans (by decide : 47 ≤ 75 - 24) (Nat.sub_le_sub_right hLo 24))) (wp_bind h) (fun r49 h => rs_back0 ?_))
                obtain ⟨v51, e52, h⟩ := wp_lt h
                refine dl_inc wi_121_262 l3 rfl e52 (fun lv l3 t50 => ?_)
                have l0 := t50 _ _ (by decide) (Or.inl rfl) l0
                have l1 := t50 _ _ (by decide) (Or.inl rfl) l1
                have l2 := t50 _ _ (by decide) (Or.inl rfl) l2
                refine rs_goto (tg := 244) wi_121_265 ⟨by decide, by decide⟩ ?_
                exact h _ l0 l1 l2 l3
            ·
              intro x53 h lv l0 l2
              refine rs_aldn wi_121_268 l0 ?_
              refine rs_V wi_121_269 wc_121_637 rfl (dq_isa tf_174_0 wa_15_133) (Nat.le_trans (by decide) hF) (ml_le wm_133 (Nat.le_trans (by decide) hLo)) rfl (sp_133 hw (Nat.le_trans (by decide : 0 ≤ 3 - 1) (Nat.sub_le_sub_right hF 1)) (ml_sub wm_133 (Nat.le_trans (by decide : 0 ≤ 75 - 20) (Nat.sub_le_sub_right hLo 20))) (wp_bind h) (fun r54 h => rs_back0 ?_))
              refine rs_ildn wi_121_272 l2 ?_
              exact rs_iret wi_121_273 wr_121 rfl (hQ (r15.1, r54) h)
          ·
            have h := wp_neg h q
            exact hj226 _ h _ l0
      ·
        intro x55 h lv l0 l1 l2
        have h := wp_inr h
        refine rs_goto (tg := 208) wi_121_148 ⟨by decide, by decide⟩ ?_
        refine rs_aldn wi_121_208 l0 ?_
        refine dq_gi wi_121_209 wf_121_733 tf_174_82 ?_
        refine wp_jn (B := fun p56 : Unit => ∀ lv, rx_ld lv 0 = some (.ref 174) → rs (rt_P sc fm) 121 F Lo 226 lv [] (hq false x55 y w) Q) h (fun p56 h lv l0 => ?_) (fun j226 hj226 h => ?_)
        ·
          refine rs_pure wi_121_226 rfl ?_
          refine rs_topi (v := (-1000)) (by decide) ?_
          refine rs_aldn wi_121_229 l0 ?_
          refine dq_gi wi_121_230 wf_121_736 tf_174_80 ?_
          refine rs_pure wi_121_233 rfl ?_
          exact rs_iret wi_121_234 wr_121 rfl (hQ (((-1000) - (x55.1 174 80)), x55) h)
        refine rs_ifne (tg := 226) wi_121_212 ⟨by decide, by decide⟩ (fun q => ?_) (fun q => ?_)
        ·
          have h := wp_neg h q
          exact hj226 _ h _ l0
        ·
          have h := wp_pos h q
          refine rs_aldn wi_121_215 l0 ?_
          refine dq_gi wi_121_216 wf_121_736 tf_174_80 ?_
          refine rs_aldn wi_121_219 l0 ?_
          refine dq_gi wi_121_220 wf_121_739 tf_174_81 ?_
          refine rs_icge (tg := 235) wi_121_223 ⟨by decide, by decide⟩ (fun q => ?_) (fun q => ?_)
          ·
            have h := wp_pos h q
            refine rs_aldn wi_121_235 l0 ?_
            refine dq_gr wi_121_236 wf_121_218 tf_174_60 ?_
            refine rs_ildn wi_121_239 l1 ?_
            refine rs_pure wi_121_240 rfl ?_
            refine rs_topi (v := 0) (by decide) ?_
            obtain ⟨g57, h⟩ := wp_gd h
            obtain ⟨c58, e59, h⟩ := wp_lt h
            refine dq_iast wi_121_241 t_222 g57 e59 ?_
            refine rs_pure wi_121_242 rfl ?_
            refine rs_topi (v := 0) (by decide) ?_
            refine dl_istn wi_121_243 rfl (fun lv l3 t60 => ?_)
            have l0 := t60 _ _ (by decide) (Or.inl rfl) l0
            have l1 := t60 _ _ (by decide) (Or.inl rfl) l1
            have l2 := t60 _ _ (by decide) (Or.inl rfl) l2
            refine whl_ex (A := fun s61 : Int32 × cS => ∀ lv, rx_ld lv 0 = some (.ref 174) → rx_ld lv 1 = some (.int a1) → rx_ld lv 2 = some (.int r15.1) → rx_ld lv 3 = some (.int s61.1) → rs (rt_P sc fm) 121 F Lo 244 lv [] (hq false s61.2 y w) Q) (B := (fun x67 : cS => ∀ lv, rx_ld lv 0 = some (.ref 174) → rx_ld lv 2 = some (.int r15.1) → rs (rt_P sc fm) 121 F Lo 268 lv [] (hq false x67 y w) Q)) ?_ ?_ _ _ (wp_bind h) _ l0 l1 l2 l3
            · intro s61 h lv l0 l1 l2 l3
              refine rs_ildn wi_121_244 l3 ?_
              refine rs_ildn wi_121_245 l2 ?_
              refine rs_icge (tg := 268) wi_121_246 ⟨by decide, by decide⟩ (fun q => ?_) (fun q => ?_)
              ·
                have h := wp_pos h q
                exact h _ l0 l2
              ·
                have h := wp_neg h q
                refine rs_aldn wi_121_249 l0 ?_
                refine rs_aldn wi_121_250 l0 ?_
                refine rs_pure wi_121_251 rfl ?_
                refine rs_topi (v := 1218) (by decide) ?_
                refine rs_ildn wi_121_254 l3 ?_
                refine rs_V wi_121_255 wc_121_543 rfl (dq_isa tf_174_0 wa_15_392) (Nat.le_trans (by decide) hF) (ml_le wm_392 (Nat.le_trans (by decide) hLo)) rfl (sp_392 (Nat.le_trans (by decide : 0 ≤ 3 - 1) (Nat.sub_le_sub_right hF 1)) (ml_sub wm_392 (Nat.le_trans (by decide : 0 ≤ 75 - 22) (Nat.sub_le_sub_right hLo 22))) (wp_bind h) (fun v62 h => rs_back1 ?_))
                refine rs_ildn wi_121_258 l1 ?_
                refine rs_V wi_121_259 wc_121_754 rfl (dq_isa tf_174_0 wa_15_437) (Nat.le_trans (by decide) hF) (ml_le wm_437 (Nat.le_trans (by decide) hLo)) rfl (sp_437 hw (Nat.le_trans (by decide : 2 ≤ 3 - 1) (Nat.sub_le_sub_right hF 1)) (ml_sub wm_437 (Nat.le_trans (by decide : 47 ≤ 75 - 24) (Nat.sub_le_sub_right hLo 24))) (wp_bind h) (fun r63 h => rs_back0 ?_))
                obtain ⟨v65, e66, h⟩ := wp_lt h
                refine dl_inc wi_121_262 l3 rfl e66 (fun lv l3 t64 => ?_)
                have l0 := t64 _ _ (by decide) (Or.inl rfl) l0
                have l1 := t64 _ _ (by decide) (Or.inl rfl) l1
                have l2 := t64 _ _ (by decide) (Or.inl rfl) l2
                refine rs_goto (tg := 244) wi_121_265 ⟨by decide, by decide⟩ ?_
                exact h _ l0 l1 l2 l3
            ·
              intro x67 h lv l0 l2
              refine rs_aldn wi_121_268 l0 ?_
              refine rs_V wi_121_269 wc_121_637 rfl (dq_isa tf_174_0 wa_15_133) (Nat.le_trans (by decide) hF) (ml_le wm_133 (Nat.le_trans (by decide) hLo)) rfl (sp_133 hw (Nat.le_trans (by decide : 0 ≤ 3 - 1) (Nat.sub_le_sub_right hF 1)) (ml_sub wm_133 (Nat.le_trans (by decide : 0 ≤ 75 - 20) (Nat.sub_le_sub_right hLo 20))) (wp_bind h) (fun r68 h => rs_back0 ?_))
              refine rs_ildn wi_121_272 l2 ?_
              exact rs_iret wi_121_273 wr_121 rfl (hQ (r15.1, r68) h)
          ·
            have h := wp_neg h q
            exact hj226 _ h _ l0
  ·
    have h := wp_pos h q
    refine rs_pure wi_121_26 rfl ?_
    refine rs_topi (v := (-1)) (by decide) ?_
    exact rs_iret wi_121_27 wr_121 rfl (hQ ((-1), c5) h)
theorem wi_359_0 : ri (rt_P sc fm) 359 0 (.iconst 0) (1) := ri_of (by decide +kernel) rfl
theorem wi_359_1 : ri (rt_P sc fm) 359 1 (.istore_n 2) (2) := ri_of (by decide +kernel) rfl
theorem wi_359_10 : ri (rt_P sc fm) 359 10 (.iinc 2 1) (13) := ri_of (by decide +kernel) rfl
theorem wi_359_13 : ri (rt_P sc fm) 359 13 (.lload_n 3) (14) := ri_of (by decide +kernel) rfl
theorem wi_359_14 : ri (rt_P sc fm) 359 14 (.bipush 8) (16) := ri_of (by decide +kernel) rfl
theorem wi_359_16 : ri (rt_P sc fm) 359 16 (.lushr) (17) := ri_of (by decide +kernel) rfl
theorem wi_359_17 : ri (rt_P sc fm) 359 17 (.lstore_n 3) (18) := ri_of (by decide +kernel) rfl
theorem wi_359_18 : ri (rt_P sc fm) 359 18 (.goto (-14)) (21) := ri_of (by decide +kernel) rfl
theorem wi_359_2 : ri (rt_P sc fm) 359 2 (.lload_n 0) (3) := ri_of (by decide +kernel) rfl
theorem wi_359_21 : ri (rt_P sc fm) 359 21 (.iload_n 2) (22) := ri_of (by decide +kernel) rfl
theorem wi_359_22 : ri (rt_P sc fm) 359 22 (.ireturn) (23) := ri_of (by decide +kernel) rfl
theorem wi_359_3 : ri (rt_P sc fm) 359 3 (.lstore_n 3) (4) := ri_of (by decide +kernel) rfl
theorem wi_359_4 : ri (rt_P sc fm) 359 4 (.lload_n 3) (5) := ri_of (by decide +kernel) rfl
theorem wi_359_5 : ri (rt_P sc fm) 359 5 (.lconst 0) (6) := ri_of (by decide +kernel) rfl
theorem wi_359_6 : ri (rt_P sc fm) 359 6 (.lcmp) (7) := ri_of (by decide +kernel) rfl
theorem wi_359_7 : ri (rt_P sc fm) 359 7 (.ifCond .eq 14) (10) := ri_of (by decide +kernel) rfl
theorem wr_359 : rx_rt (rt_P sc fm) 359 = (some FieldType.int) := (by decide +kernel : rt_rt 359 = (some FieldType.int))
/-- MarkHouseModel.sizeOf(J)I -/
def d_359 (n : Nat) (a0 : Int64) : Option (Int32) :=
  Option.bind (whl (R := (Int32)) (fun s3 : Int32 × Int64 =>
    if (lg_cmp s3.2 0) = 0 then
      some (.inr s3.1)
    else
      lt (s3.1 + 1 : Int32) (fun v5 =>
      lt (((s3.2 : Int64).toUInt64 >>> ((8 : Int32).toInt64.toUInt64 &&& Int64.toUInt64 63)).toInt64 : Int64) (fun v8 =>
      some (.inl (v5, v8))))) n (0, a0))
  (fun x10 : Int32 =>
    some x10)
set_option maxRecDepth 100000 in
set_option maxHeartbeats 4000000 in
theorem sp_359 {F Lo n : Nat} {a0 : Int64} {L : List va_E} {K : Int32 → Prop} {Q : ((Option Value) ⊕ String) → List va_E → Prop} (hF : 0 ≤ F) (hLo : 0 ≤ Lo)  (h : wp (d_359 n a0) K) (hQ : ∀ r, K r → Q (.inl (some (.int r))) L) : rs (rt_P sc fm) 359 F Lo 0 [(0, .long a0)] [] L Q := by
  unfold d_359 at h
  obtain ⟨lv, elv⟩ : ∃ lv : rx_L, lv = [(0, .long a0)] := ⟨_, rfl⟩
  rw [← elv]
  have l0 : rx_ld lv 0 = some (.long a0) := by rw [elv]; rfl
  refine rs_pure wi_359_0 rfl ?_
  refine rs_topi (v := 0) (by decide) ?_
  refine dl_istn wi_359_1 rfl (fun lv l2 t1 => ?_)
  have l0 := t1 _ _ (by decide) (Or.inr (by decide)) l0
  refine rs_lldn wi_359_2 l0 ?_
  refine dl_lstn wi_359_3 rfl (fun lv l3 t2 => ?_)
  have l2 := t2 _ _ (by decide) (by decide) (Or.inl rfl) l2
  refine whl_ex (A := fun s3 : Int32 × Int64 => ∀ lv, rx_ld lv 2 = some (.int s3.1) → rx_ld lv 3 = some (.long s3.2) → rs (rt_P sc fm) 359 F Lo 4 lv [] L Q) (B := (fun x10 : Int32 => ∀ lv, rx_ld lv 2 = some (.int x10) → rs (rt_P sc fm) 359 F Lo 21 lv [] L Q)) ?_ ?_ _ _ (wp_bind h) _ l2 l3
  · intro s3 h lv l2 l3
    refine rs_lldn wi_359_4 l3 ?_
    refine rs_pure wi_359_5 rfl ?_
    refine rs_topl (v := 0) (by decide) ?_
    refine rs_pure wi_359_6 rfl ?_
    refine rs_ifeq (tg := 21) wi_359_7 ⟨by decide, by decide⟩ (fun q => ?_) (fun q => ?_)
    ·
      have h := wp_pos h q
      exact h _ l2
    ·
      have h := wp_neg h q
      obtain ⟨v5, e6, h⟩ := wp_lt h
      refine dl_inc wi_359_10 l2 rfl e6 (fun lv l2 t4 => ?_)
      have l3 := t4 _ _ (by decide) (Or.inr (by decide)) l3
      refine rs_lldn wi_359_13 l3 ?_
      refine rs_pure wi_359_14 rfl ?_
      refine rs_topi (v := 8) (by decide) ?_
      refine rs_pure wi_359_16 rfl ?_
      obtain ⟨v8, e9, h⟩ := wp_lt h
      refine rs_topl e9 ?_
      refine dl_lstn wi_359_17 rfl (fun lv l3 t7 => ?_)
      have l2 := t7 _ _ (by decide) (by decide) (Or.inl rfl) l2
      refine rs_goto (tg := 4) wi_359_18 ⟨by decide, by decide⟩ ?_
      exact h _ l2 l3
  ·
    intro x10 h lv l2
    refine rs_ildn wi_359_21 l2 ?_
    exact rs_iret wi_359_22 wr_359 rfl (hQ x10 h)
theorem wc_438_371 : rx_ct (rt_P sc fm) 438 371 = some (0, 357, 1) := (by decide +kernel : rt_ct 438 371 = some (0, 357, 1))
theorem wc_438_393 : rx_ct (rt_P sc fm) 438 393 = some (0, 358, 1) := (by decide +kernel : rt_ct 438 393 = some (0, 358, 1))
theorem wc_438_757 : rx_ct (rt_P sc fm) 438 757 = some (1, 359, 1) := (by decide +kernel : rt_ct 438 757 = some (1, 359, 1))
theorem wi_438_0 : ri (rt_P sc fm) 438 0 (.aload_n 0) (1) := ri_of (by decide +kernel) rfl
theorem wi_438_1 : ri (rt_P sc fm) 438 1 (.lload_n 1) (2) := ri_of (by decide +kernel) rfl
theorem wi_438_10 : ri (rt_P sc fm) 438 10 (.invokevirtual 393) (13) := ri_of (by decide +kernel) rfl
theorem wi_438_13 : ri (rt_P sc fm) 438 13 (.return_) (14) := ri_of (by decide +kernel) rfl
theorem wi_438_2 : ri (rt_P sc fm) 438 2 (.invokestatic 757) (5) := ri_of (by decide +kernel) rfl
theorem wi_438_5 : ri (rt_P sc fm) 438 5 (.invokevirtual 371) (8) := ri_of (by decide +kernel) rfl
theorem wi_438_8 : ri (rt_P sc fm) 438 8 (.aload_n 0) (9) := ri_of (by decide +kernel) rfl
theorem wi_438_9 : ri (rt_P sc fm) 438 9 (.lload_n 1) (10) := ri_of (by decide +kernel) rfl
theorem wm_359 : rx_ml (rt_P sc fm) 359 = 5 := (by decide +kernel : rt_ml 359 = 5)
theorem wr_438 : rx_rt (rt_P sc fm) 438 = none := (by decide +kernel : rt_rt 438 = none)
/-- MarkHouseModel.sayFileName(J)V -/
def d_438 (n : Nat) (a1 : Int64) (c : cS) : Option (cS) :=
  Option.bind (d_359 n a1) (fun v1 =>
  Option.bind (d_357 n v1 c) (fun r2 =>
  Option.bind (d_358 n a1 r2) (fun r3 =>
  some r3)))
set_option maxRecDepth 100000 in
set_option maxHeartbeats 4000000 in
theorem sp_438 {F Lo n : Nat} {a1 : Int64} {c y : cS} {w : cW} {K : cS → Prop} {Q : ((Option Value) ⊕ String) → List va_E → Prop} (hw : rOK fm w) (hF : 2 ≤ F) (hLo : 44 ≤ Lo)  (h : wp (d_438 n a1 c) K) (hQ : ∀ r, K r → Q (.inl none) (hq false r y w)) : rs (rt_P sc fm) 438 F Lo 0 [(0, .ref 174), (1, .long a1)] [] (hq false c y w) Q := by
  unfold d_438 at h
  obtain ⟨lv, elv⟩ : ∃ lv : rx_L, lv = [(0, .ref 174), (1, .long a1)] := ⟨_, rfl⟩
  rw [← elv]
  have l0 : rx_ld lv 0 = some (.ref 174) := by rw [elv]; rfl
  have l1 : rx_ld lv 1 = some (.long a1) := by rw [elv]; rfl
  refine rs_aldn wi_438_0 l0 ?_
  refine rs_lldn wi_438_1 l1 ?_
  refine rs_S wi_438_2 wc_438_757 (Or.inl rfl) rfl (Nat.le_trans (by decide) hF) (ml_le wm_359 (Nat.le_trans (by decide) hLo)) rfl (sp_359 (Nat.le_trans (by decide : 0 ≤ 2 - 1) (Nat.sub_le_sub_right hF 1)) (ml_sub wm_359 (Nat.le_trans (by decide : 0 ≤ 44 - 24) (Nat.sub_le_sub_right hLo 24))) (wp_bind h) (fun v1 h => rs_back1 ?_))
  refine rs_V wi_438_5 wc_438_371 rfl (dq_isa tf_174_0 wa_15_357) (Nat.le_trans (by decide) hF) (ml_le wm_357 (Nat.le_trans (by decide) hLo)) rfl (sp_357 hw (Nat.le_trans (by decide : 0 ≤ 2 - 1) (Nat.sub_le_sub_right hF 1)) (ml_sub wm_357 (Nat.le_trans (by decide : 0 ≤ 44 - 21) (Nat.sub_le_sub_right hLo 21))) (wp_bind h) (fun r2 h => rs_back0 ?_))
  refine rs_aldn wi_438_8 l0 ?_
  refine rs_lldn wi_438_9 l1 ?_
  refine rs_V wi_438_10 wc_438_393 rfl (dq_isa tf_174_0 wa_15_358) (Nat.le_trans (by decide) hF) (ml_le wm_358 (Nat.le_trans (by decide) hLo)) rfl (sp_358 hw (Nat.le_trans (by decide : 1 ≤ 2 - 1) (Nat.sub_le_sub_right hF 1)) (ml_sub wm_358 (Nat.le_trans (by decide : 21 ≤ 44 - 23) (Nat.sub_le_sub_right hLo 23))) (wp_bind h) (fun r3 h => rs_back0 ?_))
  exact rs_vret wi_438_13 wr_438 (hQ r3 h)
theorem wa_15_438 : rz_cn 15 (rx_yn (rt_P sc fm) 438).cls = true := (by decide +kernel : rz_cn 15 (rt_yn 438).cls = true)
theorem wc_122_371 : rx_ct (rt_P sc fm) 122 371 = some (0, 357, 1) := (by decide +kernel : rt_ct 122 371 = some (0, 357, 1))
theorem wc_122_543 : rx_ct (rt_P sc fm) 122 543 = some (0, 392, 2) := (by decide +kernel : rt_ct 122 543 = some (0, 392, 2))
theorem wc_122_652 : rx_ct (rt_P sc fm) 122 652 = some (0, 109, 1) := (by decide +kernel : rt_ct 122 652 = some (0, 109, 1))
theorem wc_122_760 : rx_ct (rt_P sc fm) 122 760 = some (0, 438, 1) := (by decide +kernel : rt_ct 122 760 = some (0, 438, 1))
theorem wf_122_218 : rx_ft (rt_P sc fm) 122 218 = some (15, 60) := (by decide +kernel : rt_ft 122 218 = some (15, 60))
theorem wf_122_221 : rx_ft (rt_P sc fm) 122 221 = some (15, 61) := (by decide +kernel : rt_ft 122 221 = some (15, 61))
theorem wf_122_224 : rx_ft (rt_P sc fm) 122 224 = some (15, 62) := (by decide +kernel : rt_ft 122 224 = some (15, 62))
theorem wf_122_227 : rx_ft (rt_P sc fm) 122 227 = some (15, 63) := (by decide +kernel : rt_ft 122 227 = some (15, 63))
theorem wf_122_231 : rx_ft (rt_P sc fm) 122 231 = some (15, 64) := (by decide +kernel : rt_ft 122 231 = some (15, 64))
theorem wf_122_234 : rx_ft (rt_P sc fm) 122 234 = some (15, 65) := (by decide +kernel : rt_ft 122 234 = some (15, 65))
theorem wf_122_237 : rx_ft (rt_P sc fm) 122 237 = some (15, 66) := (by decide +kernel : rt_ft 122 237 = some (15, 66))
theorem wf_122_366 : rx_ft (rt_P sc fm) 122 366 = some (15, 4) := (by decide +kernel : rt_ft 122 366 = some (15, 4))
theorem wi_122_0 : ri (rt_P sc fm) 122 0 (.aload_n 0) (1) := ri_of (by decide +kernel) rfl
theorem wi_122_1 : ri (rt_P sc fm) 122 1 (.iconst 0) (2) := ri_of (by decide +kernel) rfl
theorem wi_122_10 : ri (rt_P sc fm) 122 10 (.ifCond .ne 5) (13) := ri_of (by decide +kernel) rfl
theorem wi_122_100 : ri (rt_P sc fm) 122 100 (.imul) (101) := ri_of (by decide +kernel) rfl
theorem wi_122_101 : ri (rt_P sc fm) 122 101 (.iload 4) (103) := ri_of (by decide +kernel) rfl
theorem wi_122_103 : ri (rt_P sc fm) 122 103 (.iadd) (104) := ri_of (by decide +kernel) rfl
theorem wi_122_104 : ri (rt_P sc fm) 122 104 (.istore 5) (106) := ri_of (by decide +kernel) rfl
theorem wi_122_106 : ri (rt_P sc fm) 122 106 (.aload_n 0) (107) := ri_of (by decide +kernel) rfl
theorem wi_122_107 : ri (rt_P sc fm) 122 107 (.aload_n 0) (108) := ri_of (by decide +kernel) rfl
theorem wi_122_108 : ri (rt_P sc fm) 122 108 (.getfield 231) (111) := ri_of (by decide +kernel) rfl
theorem wi_122_111 : ri (rt_P sc fm) 122 111 (.iload 5) (113) := ri_of (by decide +kernel) rfl
theorem wi_122_113 : ri (rt_P sc fm) 122 113 (.laload) (114) := ri_of (by decide +kernel) rfl
theorem wi_122_114 : ri (rt_P sc fm) 122 114 (.invokevirtual 760) (117) := ri_of (by decide +kernel) rfl
theorem wi_122_117 : ri (rt_P sc fm) 122 117 (.aload_n 0) (118) := ri_of (by decide +kernel) rfl
theorem wi_122_118 : ri (rt_P sc fm) 122 118 (.aload_n 0) (119) := ri_of (by decide +kernel) rfl
theorem wi_122_119 : ri (rt_P sc fm) 122 119 (.getfield 234) (122) := ri_of (by decide +kernel) rfl
theorem wi_122_122 : ri (rt_P sc fm) 122 122 (.iload 5) (124) := ri_of (by decide +kernel) rfl
theorem wi_122_124 : ri (rt_P sc fm) 122 124 (.iaload) (125) := ri_of (by decide +kernel) rfl
theorem wi_122_125 : ri (rt_P sc fm) 122 125 (.invokevirtual 371) (128) := ri_of (by decide +kernel) rfl
theorem wi_122_128 : ri (rt_P sc fm) 122 128 (.aload_n 0) (129) := ri_of (by decide +kernel) rfl
theorem wi_122_129 : ri (rt_P sc fm) 122 129 (.getfield 234) (132) := ri_of (by decide +kernel) rfl
theorem wi_122_13 : ri (rt_P sc fm) 122 13 (.iconst (-1)) (14) := ri_of (by decide +kernel) rfl
theorem wi_122_132 : ri (rt_P sc fm) 122 132 (.iload 5) (134) := ri_of (by decide +kernel) rfl
theorem wi_122_134 : ri (rt_P sc fm) 122 134 (.iaload) (135) := ri_of (by decide +kernel) rfl
theorem wi_122_135 : ri (rt_P sc fm) 122 135 (.iconst 1) (136) := ri_of (by decide +kernel) rfl
theorem wi_122_136 : ri (rt_P sc fm) 122 136 (.if_icmp .eq 14) (139) := ri_of (by decide +kernel) rfl
theorem wi_122_139 : ri (rt_P sc fm) 122 139 (.aload_n 0) (140) := ri_of (by decide +kernel) rfl
theorem wi_122_14 : ri (rt_P sc fm) 122 14 (.ireturn) (15) := ri_of (by decide +kernel) rfl
theorem wi_122_140 : ri (rt_P sc fm) 122 140 (.aload_n 0) (141) := ri_of (by decide +kernel) rfl
theorem wi_122_141 : ri (rt_P sc fm) 122 141 (.getfield 237) (144) := ri_of (by decide +kernel) rfl
theorem wi_122_144 : ri (rt_P sc fm) 122 144 (.iload 5) (146) := ri_of (by decide +kernel) rfl
theorem wi_122_146 : ri (rt_P sc fm) 122 146 (.laload) (147) := ri_of (by decide +kernel) rfl
theorem wi_122_147 : ri (rt_P sc fm) 122 147 (.invokevirtual 760) (150) := ri_of (by decide +kernel) rfl
theorem wi_122_15 : ri (rt_P sc fm) 122 15 (.aload_n 0) (16) := ri_of (by decide +kernel) rfl
theorem wi_122_150 : ri (rt_P sc fm) 122 150 (.bipush 24) (152) := ri_of (by decide +kernel) rfl
theorem wi_122_152 : ri (rt_P sc fm) 122 152 (.istore 6) (154) := ri_of (by decide +kernel) rfl
theorem wi_122_154 : ri (rt_P sc fm) 122 154 (.iload 6) (156) := ri_of (by decide +kernel) rfl
theorem wi_122_156 : ri (rt_P sc fm) 122 156 (.ifCond .lt 39) (159) := ri_of (by decide +kernel) rfl
theorem wi_122_159 : ri (rt_P sc fm) 122 159 (.aload_n 0) (160) := ri_of (by decide +kernel) rfl
theorem wi_122_16 : ri (rt_P sc fm) 122 16 (.iconst 0) (17) := ri_of (by decide +kernel) rfl
theorem wi_122_160 : ri (rt_P sc fm) 122 160 (.getfield 234) (163) := ri_of (by decide +kernel) rfl
theorem wi_122_163 : ri (rt_P sc fm) 122 163 (.iload 5) (165) := ri_of (by decide +kernel) rfl
theorem wi_122_165 : ri (rt_P sc fm) 122 165 (.iaload) (166) := ri_of (by decide +kernel) rfl
theorem wi_122_166 : ri (rt_P sc fm) 122 166 (.iconst 1) (167) := ri_of (by decide +kernel) rfl
theorem wi_122_167 : ri (rt_P sc fm) 122 167 (.if_icmp .ne 28) (170) := ri_of (by decide +kernel) rfl
theorem wi_122_17 : ri (rt_P sc fm) 122 17 (.putfield 366) (20) := ri_of (by decide +kernel) rfl
theorem wi_122_170 : ri (rt_P sc fm) 122 170 (.aload_n 0) (171) := ri_of (by decide +kernel) rfl
theorem wi_122_171 : ri (rt_P sc fm) 122 171 (.aload_n 0) (172) := ri_of (by decide +kernel) rfl
theorem wi_122_172 : ri (rt_P sc fm) 122 172 (.getfield 237) (175) := ri_of (by decide +kernel) rfl
theorem wi_122_175 : ri (rt_P sc fm) 122 175 (.iload 5) (177) := ri_of (by decide +kernel) rfl
theorem wi_122_177 : ri (rt_P sc fm) 122 177 (.laload) (178) := ri_of (by decide +kernel) rfl
theorem wi_122_178 : ri (rt_P sc fm) 122 178 (.iload 6) (180) := ri_of (by decide +kernel) rfl
theorem wi_122_180 : ri (rt_P sc fm) 122 180 (.lshr) (181) := ri_of (by decide +kernel) rfl
theorem wi_122_181 : ri (rt_P sc fm) 122 181 (.ldc2_w 369) (184) := ri_of (by decide +kernel) rfl
theorem wi_122_184 : ri (rt_P sc fm) 122 184 (.land) (185) := ri_of (by decide +kernel) rfl
theorem wi_122_185 : ri (rt_P sc fm) 122 185 (.l2i) (186) := ri_of (by decide +kernel) rfl
theorem wi_122_186 : ri (rt_P sc fm) 122 186 (.invokevirtual 371) (189) := ri_of (by decide +kernel) rfl
theorem wi_122_189 : ri (rt_P sc fm) 122 189 (.iinc 6 (-8)) (192) := ri_of (by decide +kernel) rfl
theorem wi_122_192 : ri (rt_P sc fm) 122 192 (.goto (-38)) (195) := ri_of (by decide +kernel) rfl
theorem wi_122_195 : ri (rt_P sc fm) 122 195 (.iinc 4 1) (198) := ri_of (by decide +kernel) rfl
theorem wi_122_198 : ri (rt_P sc fm) 122 198 (.goto (-111)) (201) := ri_of (by decide +kernel) rfl
theorem wi_122_2 : ri (rt_P sc fm) 122 2 (.putfield 356) (5) := ri_of (by decide +kernel) rfl
theorem wi_122_20 : ri (rt_P sc fm) 122 20 (.aload_n 0) (21) := ri_of (by decide +kernel) rfl
theorem wi_122_201 : ri (rt_P sc fm) 122 201 (.iinc 2 1) (204) := ri_of (by decide +kernel) rfl
theorem wi_122_204 : ri (rt_P sc fm) 122 204 (.goto (-172)) (207) := ri_of (by decide +kernel) rfl
theorem wi_122_207 : ri (rt_P sc fm) 122 207 (.aload_n 0) (208) := ri_of (by decide +kernel) rfl
theorem wi_122_208 : ri (rt_P sc fm) 122 208 (.getfield 366) (211) := ri_of (by decide +kernel) rfl
theorem wi_122_21 : ri (rt_P sc fm) 122 21 (.aload_n 0) (22) := ri_of (by decide +kernel) rfl
theorem wi_122_211 : ri (rt_P sc fm) 122 211 (.ireturn) (212) := ri_of (by decide +kernel) rfl
theorem wi_122_22 : ri (rt_P sc fm) 122 22 (.getfield 218) (25) := ri_of (by decide +kernel) rfl
theorem wi_122_25 : ri (rt_P sc fm) 122 25 (.iload_n 1) (26) := ri_of (by decide +kernel) rfl
theorem wi_122_26 : ri (rt_P sc fm) 122 26 (.iaload) (27) := ri_of (by decide +kernel) rfl
theorem wi_122_27 : ri (rt_P sc fm) 122 27 (.invokevirtual 371) (30) := ri_of (by decide +kernel) rfl
theorem wi_122_30 : ri (rt_P sc fm) 122 30 (.iconst 0) (31) := ri_of (by decide +kernel) rfl
theorem wi_122_31 : ri (rt_P sc fm) 122 31 (.istore_n 2) (32) := ri_of (by decide +kernel) rfl
theorem wi_122_32 : ri (rt_P sc fm) 122 32 (.iload_n 2) (33) := ri_of (by decide +kernel) rfl
theorem wi_122_33 : ri (rt_P sc fm) 122 33 (.aload_n 0) (34) := ri_of (by decide +kernel) rfl
theorem wi_122_34 : ri (rt_P sc fm) 122 34 (.getfield 218) (37) := ri_of (by decide +kernel) rfl
theorem wi_122_37 : ri (rt_P sc fm) 122 37 (.iload_n 1) (38) := ri_of (by decide +kernel) rfl
theorem wi_122_38 : ri (rt_P sc fm) 122 38 (.iaload) (39) := ri_of (by decide +kernel) rfl
theorem wi_122_39 : ri (rt_P sc fm) 122 39 (.if_icmp .ge 168) (42) := ri_of (by decide +kernel) rfl
theorem wi_122_42 : ri (rt_P sc fm) 122 42 (.aload_n 0) (43) := ri_of (by decide +kernel) rfl
theorem wi_122_43 : ri (rt_P sc fm) 122 43 (.iload_n 1) (44) := ri_of (by decide +kernel) rfl
theorem wi_122_44 : ri (rt_P sc fm) 122 44 (.iload_n 2) (45) := ri_of (by decide +kernel) rfl
theorem wi_122_45 : ri (rt_P sc fm) 122 45 (.invokevirtual 543) (48) := ri_of (by decide +kernel) rfl
theorem wi_122_48 : ri (rt_P sc fm) 122 48 (.istore_n 3) (49) := ri_of (by decide +kernel) rfl
theorem wi_122_49 : ri (rt_P sc fm) 122 49 (.aload_n 0) (50) := ri_of (by decide +kernel) rfl
theorem wi_122_5 : ri (rt_P sc fm) 122 5 (.aload_n 0) (6) := ri_of (by decide +kernel) rfl
theorem wi_122_50 : ri (rt_P sc fm) 122 50 (.aload_n 0) (51) := ri_of (by decide +kernel) rfl
theorem wi_122_51 : ri (rt_P sc fm) 122 51 (.getfield 221) (54) := ri_of (by decide +kernel) rfl
theorem wi_122_54 : ri (rt_P sc fm) 122 54 (.iload_n 3) (55) := ri_of (by decide +kernel) rfl
theorem wi_122_55 : ri (rt_P sc fm) 122 55 (.laload) (56) := ri_of (by decide +kernel) rfl
theorem wi_122_56 : ri (rt_P sc fm) 122 56 (.invokevirtual 760) (59) := ri_of (by decide +kernel) rfl
theorem wi_122_59 : ri (rt_P sc fm) 122 59 (.aload_n 0) (60) := ri_of (by decide +kernel) rfl
theorem wi_122_6 : ri (rt_P sc fm) 122 6 (.iload_n 1) (7) := ri_of (by decide +kernel) rfl
theorem wi_122_60 : ri (rt_P sc fm) 122 60 (.aload_n 0) (61) := ri_of (by decide +kernel) rfl
theorem wi_122_61 : ri (rt_P sc fm) 122 61 (.getfield 224) (64) := ri_of (by decide +kernel) rfl
theorem wi_122_64 : ri (rt_P sc fm) 122 64 (.iload_n 3) (65) := ri_of (by decide +kernel) rfl
theorem wi_122_65 : ri (rt_P sc fm) 122 65 (.baload) (66) := ri_of (by decide +kernel) rfl
theorem wi_122_66 : ri (rt_P sc fm) 122 66 (.ifCond .eq 9) (69) := ri_of (by decide +kernel) rfl
theorem wi_122_69 : ri (rt_P sc fm) 122 69 (.sipush 255) (72) := ri_of (by decide +kernel) rfl
theorem wi_122_7 : ri (rt_P sc fm) 122 7 (.invokevirtual 652) (10) := ri_of (by decide +kernel) rfl
theorem wi_122_72 : ri (rt_P sc fm) 122 72 (.goto 9) (75) := ri_of (by decide +kernel) rfl
theorem wi_122_75 : ri (rt_P sc fm) 122 75 (.aload_n 0) (76) := ri_of (by decide +kernel) rfl
theorem wi_122_76 : ri (rt_P sc fm) 122 76 (.getfield 227) (79) := ri_of (by decide +kernel) rfl
theorem wi_122_79 : ri (rt_P sc fm) 122 79 (.iload_n 3) (80) := ri_of (by decide +kernel) rfl
theorem wi_122_80 : ri (rt_P sc fm) 122 80 (.iaload) (81) := ri_of (by decide +kernel) rfl
theorem wi_122_81 : ri (rt_P sc fm) 122 81 (.invokevirtual 371) (84) := ri_of (by decide +kernel) rfl
theorem wi_122_84 : ri (rt_P sc fm) 122 84 (.iconst 0) (85) := ri_of (by decide +kernel) rfl
theorem wi_122_85 : ri (rt_P sc fm) 122 85 (.istore 4) (87) := ri_of (by decide +kernel) rfl
theorem wi_122_87 : ri (rt_P sc fm) 122 87 (.iload 4) (89) := ri_of (by decide +kernel) rfl
theorem wi_122_89 : ri (rt_P sc fm) 122 89 (.aload_n 0) (90) := ri_of (by decide +kernel) rfl
theorem wi_122_90 : ri (rt_P sc fm) 122 90 (.getfield 227) (93) := ri_of (by decide +kernel) rfl
theorem wi_122_93 : ri (rt_P sc fm) 122 93 (.iload_n 3) (94) := ri_of (by decide +kernel) rfl
theorem wi_122_94 : ri (rt_P sc fm) 122 94 (.iaload) (95) := ri_of (by decide +kernel) rfl
theorem wi_122_95 : ri (rt_P sc fm) 122 95 (.if_icmp .ge 106) (98) := ri_of (by decide +kernel) rfl
theorem wi_122_98 : ri (rt_P sc fm) 122 98 (.iload_n 3) (99) := ri_of (by decide +kernel) rfl
theorem wi_122_99 : ri (rt_P sc fm) 122 99 (.iconst 4) (100) := ri_of (by decide +kernel) rfl
theorem wk_122_369 : rx_kt (rt_P sc fm) 122 369 = some (.long (255)) := (by decide +kernel : rt_kt 122 369 = some (.long (255)))
theorem wm_438 : rx_ml (rt_P sc fm) 438 = 3 := (by decide +kernel : rt_ml 438 = 3)
theorem wp_122_356 : rx_pt (rt_P sc fm) 122 356 = some (15, 0, .int) := (by decide +kernel : rt_pt 122 356 = some (15, 0, .int))
theorem wp_122_366 : rx_pt (rt_P sc fm) 122 366 = some (15, 4, .int) := (by decide +kernel : rt_pt 122 366 = some (15, 4, .int))
theorem wr_122 : rx_rt (rt_P sc fm) 122 = (some FieldType.int) := (by decide +kernel : rt_rt 122 = (some FieldType.int))
/-- MarkHouseModel.file(I)I -/
def d_122 (n : Nat) (a1 : Int32) (c : cS) : Option (Int32 × cS) :=
  lt (pI c 174 0 0) (fun c1 =>
  Option.bind (d_109 n a1 c1) (fun v3 =>
  if v3 = 0 then
    some ((-1), c1)
  else
    lt (pI c1 174 4 0) (fun c4 =>
    if ib a1 1219 then
    Option.bind (d_357 n (c4.1 222 (ix a1)) c4) (fun r7 =>
    Option.bind (whl (R := (cS)) (fun s9 : Int32 × cS =>
      if ib a1 1219 then
      if (s9.2.1 222 (ix a1)) ≤ s9.1 then
        some (.inr s9.2)
      else
        Option.bind (d_392 n a1 s9.1) (fun v11 =>
        if ib v11 24380 then
        Option.bind (d_438 n (s9.2.2 223 (ix v11)) s9.2) (fun r14 =>
        if ib v11 24380 then
        jn (fun p16 : Int32 =>
          Option.bind (d_357 n p16 r14) (fun r17 =>
          Option.bind (whl (R := (cS)) (fun s19 : Int32 × cS =>
            if ib v11 24380 then
            if (s19.2.1 225 (ix v11)) ≤ s19.1 then
              some (.inr s19.2)
            else
              lt (((v11 * 4) + s19.1) : Int32) (fun v22 =>
              if ib v22 97520 then
              Option.bind (d_438 n (s19.2.2 226 (ix v22)) s19.2) (fun r25 =>
              if ib v22 97520 then
              Option.bind (d_357 n (r25.1 227 (ix v22)) r25) (fun r27 =>
              if ib v22 97520 then
              jn (fun p29 : cS =>
                Option.bind (whl (R := (cS)) (fun s31 : Int32 × cS =>
                  if s31.1 < 0 then
                    some (.inr s31.2)
                  else
                    if ib v22 97520 then
                    if (s31.2.1 227 (ix v22)) = 1 then
                      if ib v22 97520 then
                      Option.bind (d_357 n (((((s31.2.2 228 (ix v22)) >>> ((s31.1 : Int32).toInt64 &&& 63)) &&& 255) : Int64).toInt32) s31.2) (fun r34 =>
                      lt (s31.1 + (-8) : Int32) (fun v36 =>
                      some (.inl (v36, r34))))
                      else none
                    else
                      some (.inr s31.2)
                    else none) n (24, p29))
                (fun x38 : cS =>
                  lt (s19.1 + 1 : Int32) (fun v40 =>
                  some (.inl (v40, x38)))))
              (fun j150 =>
              if (r27.1 227 (ix v22)) = 1 then
                j150 r27
              else
                if ib v22 97520 then
                Option.bind (d_438 n (r27.2 228 (ix v22)) r27) (fun r43 =>
                j150 r43)
                else none)
              else none)
              else none)
              else none)
            else none) n (0, r17))
          (fun x44 : cS =>
            lt (s9.1 + 1 : Int32) (fun v46 =>
            some (.inl (v46, x44))))))
        (fun j81 =>
        if (r14.1 224 (ix v11)) = 0 then
          if ib v11 24380 then
          j81 (r14.1 225 (ix v11))
          else none
        else
          j81 255)
        else none)
        else none)
      else none) n (0, r7))
    (fun x49 : cS =>
      some ((x49.1 174 4), x49)))
    else none)))
set_option maxRecDepth 100000 in
set_option maxHeartbeats 4000000 in
theorem sp_122 {F Lo n : Nat} {a1 : Int32} {c y : cS} {w : cW} {K : Int32 × cS → Prop} {Q : ((Option Value) ⊕ String) → List va_E → Prop} (hw : rOK fm w) (hF : 3 ≤ F) (hLo : 66 ≤ Lo)  (h : wp (d_122 n a1 c) K) (hQ : ∀ r, K r → Q (.inl (some (.int r.1))) (hq false r.2 y w)) : rs (rt_P sc fm) 122 F Lo 0 [(0, .ref 174), (1, .int a1)] [] (hq false c y w) Q := by
  unfold d_122 at h
  obtain ⟨lv, elv⟩ : ∃ lv : rx_L, lv = [(0, .ref 174), (1, .int a1)] := ⟨_, rfl⟩
  rw [← elv]
  have l0 : rx_ld lv 0 = some (.ref 174) := by rw [elv]; rfl
  have l1 : rx_ld lv 1 = some (.int a1) := by rw [elv]; rfl
  refine rs_aldn wi_122_0 l0 ?_
  refine rs_pure wi_122_1 rfl ?_
  refine rs_topi (v := 0) (by decide) ?_
  obtain ⟨c1, e2, h⟩ := wp_lt h
  refine dq_pi wi_122_2 wp_122_356 tf_174_0 rfl rfl e2 ?_
  refine rs_aldn wi_122_5 l0 ?_
  refine rs_ildn wi_122_6 l1 ?_
  refine rs_V wi_122_7 wc_122_652 rfl (dq_isa tf_174_0 wa_15_109) (Nat.le_trans (by decide) hF) (ml_le wm_109 (Nat.le_trans (by decide) hLo)) rfl (sp_109 hw (Nat.le_trans (by decide : 0 ≤ 3 - 1) (Nat.sub_le_sub_right hF 1)) (ml_sub wm_109 (Nat.le_trans (by decide : 0 ≤ 66 - 24) (Nat.sub_le_sub_right hLo 24))) (wp_bind h) (fun v3 h => rs_back1 ?_))
  refine rs_ifne (tg := 15) wi_122_10 ⟨by decide, by decide⟩ (fun q => ?_) (fun q => ?_)
  ·
    have h := wp_neg h q
    refine rs_aldn wi_122_15 l0 ?_
    refine rs_pure wi_122_16 rfl ?_
    refine rs_topi (v := 0) (by decide) ?_
    obtain ⟨c4, e5, h⟩ := wp_lt h
    refine dq_pi wi_122_17 wp_122_366 tf_174_4 rfl rfl e5 ?_
    refine rs_aldn wi_122_20 l0 ?_
    refine rs_aldn wi_122_21 l0 ?_
    refine dq_gr wi_122_22 wf_122_218 tf_174_60 ?_
    refine rs_ildn wi_122_25 l1 ?_
    obtain ⟨g6, h⟩ := wp_gd h
    refine dq_iald wi_122_26 t_222 g6 ?_
    refine rs_V wi_122_27 wc_122_371 rfl (dq_isa tf_174_0 wa_15_357) (Nat.le_trans (by decide) hF) (ml_le wm_357 (Nat.le_trans (by decide) hLo)) rfl (sp_357 hw (Nat.le_trans (by decide : 0 ≤ 3 - 1) (Nat.sub_le_sub_right hF 1)) (ml_sub wm_357 (Nat.le_trans (by decide : 0 ≤ 66 - 21) (Nat.sub_le_sub_right hLo 21))) (wp_bind h) (fun r7 h => rs_back0 ?_))
    refine rs_pure wi_122_30 rfl ?_
    refine rs_topi (v := 0) (by decide) ?_
    refine dl_istn wi_122_31 rfl (fun lv l2 t8 => ?_)
    have l0 := t8 _ _ (by decide) (Or.inl rfl) l0
    have l1 := t8 _ _ (by decide) (Or.inl rfl) l1
    refine whl_ex (A := fun s9 : Int32 × cS => ∀ lv, rx_ld lv 0 = some (.ref 174) → rx_ld lv 1 = some (.int a1) → rx_ld lv 2 = some (.int s9.1) → rs (rt_P sc fm) 122 F Lo 32 lv [] (hq false s9.2 y w) Q) (B := (fun x49 : cS => ∀ lv, rx_ld lv 0 = some (.ref 174) → rs (rt_P sc fm) 122 F Lo 207 lv [] (hq false x49 y w) Q)) ?_ ?_ _ _ (wp_bind h) _ l0 l1 l2
    · intro s9 h lv l0 l1 l2
      refine rs_ildn wi_122_32 l2 ?_
      refine rs_aldn wi_122_33 l0 ?_
      refine dq_gr wi_122_34 wf_122_218 tf_174_60 ?_
      refine rs_ildn wi_122_37 l1 ?_
      obtain ⟨g10, h⟩ := wp_gd h
      refine dq_iald wi_122_38 t_222 g10 ?_
      refine rs_icge (tg := 207) wi_122_39 ⟨by decide, by decide⟩ (fun q => ?_) (fun q => ?_)
      ·
        have h := wp_pos h q
        exact h _ l0
      ·
        have h := wp_neg h q
        refine rs_aldn wi_122_42 l0 ?_
        refine rs_ildn wi_122_43 l1 ?_
        refine rs_ildn wi_122_44 l2 ?_
        refine rs_V wi_122_45 wc_122_543 rfl (dq_isa tf_174_0 wa_15_392) (Nat.le_trans (by decide) hF) (ml_le wm_392 (Nat.le_trans (by decide) hLo)) rfl (sp_392 (Nat.le_trans (by decide : 0 ≤ 3 - 1) (Nat.sub_le_sub_right hF 1)) (ml_sub wm_392 (Nat.le_trans (by decide : 0 ≤ 66 - 22) (Nat.sub_le_sub_right hLo 22))) (wp_bind h) (fun v11 h => rs_back1 ?_))
        refine dl_istn wi_122_48 rfl (fun lv l3 t12 => ?_)
        have l0 := t12 _ _ (by decide) (Or.inl rfl) l0
        have l1 := t12 _ _ (by decide) (Or.inl rfl) l1
        have l2 := t12 _ _ (by decide) (Or.inl rfl) l2
        refine rs_aldn wi_122_49 l0 ?_
        refine rs_aldn wi_122_50 l0 ?_
        refine dq_gr wi_122_51 wf_122_221 tf_174_61 ?_
        refine rs_ildn wi_122_54 l3 ?_
        obtain ⟨g13, h⟩ := wp_gd h
        refine dq_lald wi_122_55 t_223 g13 ?_
        refine rs_V wi_122_56 wc_122_760 rfl (dq_isa tf_174_0 wa_15_438) (Nat.le_trans (by decide) hF) (ml_le wm_438 (Nat.le_trans (by decide) hLo)) rfl (sp_438 hw (Nat.le_trans (by decide : 2 ≤ 3 - 1) (Nat.sub_le_sub_right hF 1)) (ml_sub wm_438 (Nat.le_trans (by decide : 44 ≤ 66 - 22) (Nat.sub_le_sub_right hLo 22))) (wp_bind h) (fun r14 h => rs_back0 ?_))
        refine rs_aldn wi_122_59 l0 ?_
        refine rs_aldn wi_122_60 l0 ?_
        refine dq_gr wi_122_61 wf_122_224 tf_174_62 ?_
        refine rs_ildn wi_122_64 l3 ?_
        obtain ⟨g15, h⟩ := wp_gd h
        refine dq_zald wi_122_65 t_224 g15 ?_
        refine wp_jn (B := fun p16 : Int32 => ∀ lv, rx_ld lv 0 = some (.ref 174) → rx_ld lv 1 = some (.int a1) → rx_ld lv 2 = some (.int s9.1) → rx_ld lv 3 = some (.int v11) → rs (rt_P sc fm) 122 F Lo 81 lv [.int p16, .ref 174] (hq false r14 y w) Q) h (fun p16 h lv l0 l1 l2 l3 => ?_) (fun j81 hj81 h => ?_)
        ·
          refine rs_V wi_122_81 wc_122_371 rfl (dq_isa tf_174_0 wa_15_357) (Nat.le_trans (by decide) hF) (ml_le wm_357 (Nat.le_trans (by decide) hLo)) rfl (sp_357 hw (Nat.le_trans (by decide : 0 ≤ 3 - 1) (Nat.sub_le_sub_right hF 1)) (ml_sub wm_357 (Nat.le_trans (by decide : 0 ≤ 66 - 21) (Nat.sub_le_sub_right hLo 21))) (wp_bind h) (fun r17 h => rs_back0 ?_))
          refine rs_pure wi_122_84 rfl ?_
          refine rs_topi (v := 0) (by decide) ?_
          refine dl_ist wi_122_85 rfl (fun lv l4 t18 => ?_)
          have l0 := t18 _ _ (by decide) (Or.inl rfl) l0
          have l1 := t18 _ _ (by decide) (Or.inl rfl) l1
          have l2 := t18 _ _ (by decide) (Or.inl rfl) l2
          have l3 := t18 _ _ (by decide) (Or.inl rfl) l3
          refine whl_ex (A := fun s19 : Int32 × cS => ∀ lv, rx_ld lv 0 = some (.ref 174) → rx_ld lv 1 = some (.int a1) → rx_ld lv 2 = some (.int s9.1) → rx_ld lv 3 = some (.int v11) → rx_ld lv 4 = some (.int s19.1) → rs (rt_P sc fm) 122 F Lo 87 lv [] (hq false s19.2 y w) Q) (B := (fun x44 : cS => ∀ lv, rx_ld lv 0 = some (.ref 174) → rx_ld lv 1 = some (.int a1) → rx_ld lv 2 = some (.int s9.1) → rs (rt_P sc fm) 122 F Lo 201 lv [] (hq false x44 y w) Q)) ?_ ?_ _ _ (wp_bind h) _ l0 l1 l2 l3 l4
          · intro s19 h lv l0 l1 l2 l3 l4
            refine rs_ild wi_122_87 l4 ?_
            refine rs_aldn wi_122_89 l0 ?_
            refine dq_gr wi_122_90 wf_122_227 tf_174_63 ?_
            refine rs_ildn wi_122_93 l3 ?_
            obtain ⟨g20, h⟩ := wp_gd h
            refine dq_iald wi_122_94 t_225 g20 ?_
            refine rs_icge (tg := 201) wi_122_95 ⟨by decide, by decide⟩ (fun q => ?_) (fun q => ?_)
            ·
              have h := wp_pos h q
              exact h _ l0 l1 l2
            ·
              have h := wp_neg h q
              refine rs_ildn wi_122_98 l3 ?_
              refine rs_pure wi_122_99 rfl ?_
              refine rs_topi (v := 4) (by decide) ?_
              refine rs_pure wi_122_100 rfl ?_
              refine rs_ild wi_122_101 l4 ?_
              refine rs_pure wi_122_103 rfl ?_
              obtain ⟨v22, e23, h⟩ := wp_lt h
              refine rs_topi e23 ?_
              refine dl_ist wi_122_104 rfl (fun lv l5 t21 => ?_)
              have l0 := t21 _ _ (by decide) (Or.inl rfl) l0
              have l1 := t21 _ _ (by decide) (Or.inl rfl) l1
              have l2 := t21 _ _ (by decide) (Or.inl rfl) l2
              have l3 := t21 _ _ (by decide) (Or.inl rfl) l3
              have l4 := t21 _ _ (by decide) (Or.inl rfl) l4
              refine rs_aldn wi_122_106 l0 ?_
              refine rs_aldn wi_122_107 l0 ?_
              refine dq_gr wi_122_108 wf_122_231 tf_174_64 ?_
              refine rs_ild wi_122_111 l5 ?_
              obtain ⟨g24, h⟩ := wp_gd h
              refine dq_lald wi_122_113 t_226 g24 ?_
              refine rs_V wi_122_114 wc_122_760 rfl (dq_isa tf_174_0 wa_15_438) (Nat.le_trans (by decide) hF) (ml_le wm_438 (Nat.le_trans (by decide) hLo)) rfl (sp_438 hw (Nat.le_trans (by decide : 2 ≤ 3 - 1) (Nat.sub_le_sub_right hF 1)) (ml_sub wm_438 (Nat.le_trans (by decide : 44 ≤ 66 - 22) (Nat.sub_le_sub_right hLo 22))) (wp_bind h) (fun r25 h => rs_back0 ?_))
              refine rs_aldn wi_122_117 l0 ?_
              refine rs_aldn wi_122_118 l0 ?_
              refine dq_gr wi_122_119 wf_122_234 tf_174_65 ?_
              refine rs_ild wi_122_122 l5 ?_
              obtain ⟨g26, h⟩ := wp_gd h
              refine dq_iald wi_122_124 t_227 g26 ?_
              refine rs_V wi_122_125 wc_122_371 rfl (dq_isa tf_174_0 wa_15_357) (Nat.le_trans (by decide) hF) (ml_le wm_357 (Nat.le_trans (by decide) hLo)) rfl (sp_357 hw (Nat.le_trans (by decide : 0 ≤ 3 - 1) (Nat.sub_le_sub_right hF 1)) (ml_sub wm_357 (Nat.le_trans (by decide : 0 ≤ 66 - 21) (Nat.sub_le_sub_right hLo 21))) (wp_bind h) (fun r27 h => rs_back0 ?_))
              refine rs_aldn wi_122_128 l0 ?_
              refine dq_gr wi_122_129 wf_122_234 tf_174_65 ?_
              refine rs_ild wi_122_132 l5 ?_
              obtain ⟨g28, h⟩ := wp_gd h
              refine dq_iald wi_122_134 t_227 g28 ?_
              refine rs_pure wi_122_135 rfl ?_
              refine rs_topi (v := 1) (by decide) ?_
              refine wp_jn (B := fun p29 : cS => ∀ lv, rx_ld lv 0 = some (.ref 174) → rx_ld lv 1 = some (.int a1) → rx_ld lv 2 = some (.int s9.1) → rx_ld lv 3 = some (.int v11) → rx_ld lv 4 = some (.int s19.1) → rx_ld lv 5 = some (.int v22) → rs (rt_P sc fm) 122 F Lo 150 lv [] (hq false p29 y w) Q) h (fun p29 h lv l0 l1 l2 l3 l4 l5 => ?_) (fun j150 hj150 h => ?_)
              ·
                refine rs_pure wi_122_150 rfl ?_
                refine rs_topi (v := 24) (by decide) ?_
                refine dl_ist wi_122_152 rfl (fun lv l6 t30 => ?_)
                have l0 := t30 _ _ (by decide) (Or.inl rfl) l0
                have l1 := t30 _ _ (by decide) (Or.inl rfl) l1
                have l2 := t30 _ _ (by decide) (Or.inl rfl) l2
                have l3 := t30 _ _ (by decide) (Or.inl rfl) l3
                have l4 := t30 _ _ (by decide) (Or.inl rfl) l4
                have l5 := t30 _ _ (by decide) (Or.inl rfl) l5
                refine whl_ex (A := fun s31 : Int32 × cS => ∀ lv, rx_ld lv 0 = some (.ref 174) → rx_ld lv 1 = some (.int a1) → rx_ld lv 2 = some (.int s9.1) → rx_ld lv 3 = some (.int v11) → rx_ld lv 4 = some (.int s19.1) → rx_ld lv 5 = some (.int v22) → rx_ld lv 6 = some (.int s31.1) → rs (rt_P sc fm) 122 F Lo 154 lv [] (hq false s31.2 y w) Q) (B := (fun x38 : cS => ∀ lv, rx_ld lv 0 = some (.ref 174) → rx_ld lv 1 = some (.int a1) → rx_ld lv 2 = some (.int s9.1) → rx_ld lv 3 = some (.int v11) → rx_ld lv 4 = some (.int s19.1) → rs (rt_P sc fm) 122 F Lo 195 lv [] (hq false x38 y w) Q)) ?_ ?_ _ _ (wp_bind h) _ l0 l1 l2 l3 l4 l5 l6
                · intro s31 h lv l0 l1 l2 l3 l4 l5 l6
                  refine rs_ild wi_122_154 l6 ?_
                  refine rs_iflt (tg := 195) wi_122_156 ⟨by decide, by decide⟩ (fun q => ?_) (fun q => ?_)
                  ·
                    have h := wp_pos h q
                    exact h _ l0 l1 l2 l3 l4
                  ·
                    have h := wp_neg h q
                    refine rs_aldn wi_122_159 l0 ?_
                    refine dq_gr wi_122_160 wf_122_234 tf_174_65 ?_
                    refine rs_ild wi_122_163 l5 ?_
                    obtain ⟨g32, h⟩ := wp_gd h
                    refine dq_iald wi_122_165 t_227 g32 ?_
                    refine rs_pure wi_122_166 rfl ?_
                    refine rs_topi (v := 1) (by decide) ?_
                    refine rs_icne (tg := 195) wi_122_167 ⟨by decide, by decide⟩ (fun q => ?_) (fun q => ?_)
                    ·
                      have h := wp_neg h q
                      exact h _ l0 l1 l2 l3 l4
                    ·
                      have h := wp_pos h q
                      refine rs_aldn wi_122_170 l0 ?_
                      refine rs_aldn wi_122_171 l0 ?_
                      refine dq_gr wi_122_172 wf_122_237 tf_174_66 ?_
                      refine rs_ild wi_122_175 l5 ?_
                      obtain ⟨g33, h⟩ := wp_gd h
                      refine dq_lald wi_122_177 t_228 g33 ?_
                      refine rs_ild wi_122_178 l6 ?_
                      refine rs_pure wi_122_180 rfl ?_
                      refine rs_ldcl wi_122_181 wk_122_369 ?_
                      refine rs_pure wi_122_184 rfl ?_
                      refine rs_pure wi_122_185 rfl ?_
                      refine rs_V wi_122_186 wc_122_371 rfl (dq_isa tf_174_0 wa_15_357) (Nat.le_trans (by decide) hF) (ml_le wm_357 (Nat.le_trans (by decide) hLo)) rfl (sp_357 hw (Nat.le_trans (by decide : 0 ≤ 3 - 1) (Nat.sub_le_sub_right hF 1)) (ml_sub wm_357 (Nat.le_trans (by decide : 0 ≤ 66 - 21) (Nat.sub_le_sub_right hLo 21))) (wp_bind h) (fun r34 h => rs_back0 ?_))
                      obtain ⟨v36, e37, h⟩ := wp_lt h
                      refine dl_inc wi_122_189 l6 rfl e37 (fun lv l6 t35 => ?_)
                      have l0 := t35 _ _ (by decide) (Or.inl rfl) l0
                      have l1 := t35 _ _ (by decide) (Or.inl rfl) l1
                      have l2 := t35 _ _ (by decide) (Or.inl rfl) l2
                      have l3 := t35 _ _ (by decide) (Or.inl rfl) l3
                      have l4 := t35 _ _ (by decide) (Or.inl rfl) l4
                      have l5 := t35 _ _ (by decide) (Or.inl rfl) l5
                      refine rs_goto (tg := 154) wi_122_192 ⟨by decide, by decide⟩ ?_
                      exact h _ l0 l1 l2 l3 l4 l5 l6
                ·
                  intro x38 h lv l0 l1 l2 l3 l4
                  obtain ⟨v40, e41, h⟩ := wp_lt h
                  refine dl_inc wi_122_195 l4 rfl e41 (fun lv l4 t39 => ?_)
                  have l0 := t39 _ _ (by decide) (Or.inl rfl) l0
                  have l1 := t39 _ _ (by decide) (Or.inl rfl) l1
                  have l2 := t39 _ _ (by decide) (Or.inl rfl) l2
                  have l3 := t39 _ _ (by decide) (Or.inl rfl) l3
                  refine rs_goto (tg := 87) wi_122_198 ⟨by decide, by decide⟩ ?_
                  exact h _ l0 l1 l2 l3 l4
              refine rs_iceq (tg := 150) wi_122_136 ⟨by decide, by decide⟩ (fun q => ?_) (fun q => ?_)
              ·
                have h := wp_pos h q
                exact hj150 _ h _ l0 l1 l2 l3 l4 l5
              ·
                have h := wp_neg h q
                refine rs_aldn wi_122_139 l0 ?_
                refine rs_aldn wi_122_140 l0 ?_
                refine dq_gr wi_122_141 wf_122_237 tf_174_66 ?_
                refine rs_ild wi_122_144 l5 ?_
                obtain ⟨g42, h⟩ := wp_gd h
                refine dq_lald wi_122_146 t_228 g42 ?_
                refine rs_V wi_122_147 wc_122_760 rfl (dq_isa tf_174_0 wa_15_438) (Nat.le_trans (by decide) hF) (ml_le wm_438 (Nat.le_trans (by decide) hLo)) rfl (sp_438 hw (Nat.le_trans (by decide : 2 ≤ 3 - 1) (Nat.sub_le_sub_right hF 1)) (ml_sub wm_438 (Nat.le_trans (by decide : 44 ≤ 66 - 22) (Nat.sub_le_sub_right hLo 22))) (wp_bind h) (fun r43 h => rs_back0 ?_))
                exact hj150 _ h _ l0 l1 l2 l3 l4 l5
          ·
            intro x44 h lv l0 l1 l2
            obtain ⟨v46, e47, h⟩ := wp_lt h
            refine dl_inc wi_122_201 l2 rfl e47 (fun lv l2 t45 => ?_)
            have l0 := t45 _ _ (by decide) (Or.inl rfl) l0
            have l1 := t45 _ _ (by decide) (Or.inl rfl) l1
            refine rs_goto (tg := 32) wi_122_204 ⟨by decide, by decide⟩ ?_
            exact h _ l0 l1 l2
        refine rs_ifeq (tg := 75) wi_122_66 ⟨by decide, by decide⟩ (fun q => ?_) (fun q => ?_)
        ·
          have h := wp_pos h q
          refine rs_aldn wi_122_75 l0 ?_
          refine dq_gr wi_122_76 wf_122_227 tf_174_63 ?_
          refine rs_ildn wi_122_79 l3 ?_
          obtain ⟨g48, h⟩ := wp_gd h
          refine dq_iald wi_122_80 t_225 g48 ?_
          exact hj81 _ h _ l0 l1 l2 l3
        ·
          have h := wp_neg h q
          refine rs_pure wi_122_69 rfl ?_
          refine rs_topi (v := 255) (by decide) ?_
          refine rs_goto (tg := 81) wi_122_72 ⟨by decide, by decide⟩ ?_
          exact hj81 _ h _ l0 l1 l2 l3
    ·
      intro x49 h lv l0
      refine rs_aldn wi_122_207 l0 ?_
      refine dq_gi wi_122_208 wf_122_366 tf_174_4 ?_
      exact rs_iret wi_122_211 wr_122 rfl (hQ ((x49.1 174 4), x49) h)
  ·
    have h := wp_pos h q
    refine rs_pure wi_122_13 rfl ?_
    refine rs_topi (v := (-1)) (by decide) ?_
    exact rs_iret wi_122_14 wr_122 rfl (hQ ((-1), c1) h)
end D56
