/-! THE CODE AS PURE PROGRAMS, 17: by wip/whole/dc.py -/
section D58
variable {sc : Nat × (Nat → Int32)} {fm : Value}
set_option maxRecDepth 100000 in
theorem wsb_8 : (rt_sb 8).isSome = true := by decide +kernel
set_option maxRecDepth 100000 in
theorem wsb_9 : (rt_sb 9).isSome = true := by decide +kernel
set_option maxRecDepth 100000 in
theorem wa_15_444 : rz_cn 15 (rx_yn (rt_P sc fm) 444).cls = true := (by decide +kernel : rz_cn 15 (rt_yn 444).cls = true)
set_option maxRecDepth 100000 in
theorem wa_15_445 : rz_cn 15 (rx_yn (rt_P sc fm) 445).cls = true := (by decide +kernel : rz_cn 15 (rt_yn 445).cls = true)
set_option maxRecDepth 100000 in
theorem wa_15_446 : rz_cn 15 (rx_yn (rt_P sc fm) 446).cls = true := (by decide +kernel : rz_cn 15 (rt_yn 446).cls = true)
set_option maxRecDepth 100000 in
theorem wc_123_402 : rx_ct (rt_P sc fm) 123 402 = some (0, 362, 1) := (by decide +kernel : rt_ct 123 402 = some (0, 362, 1))
set_option maxRecDepth 100000 in
theorem wc_123_765 : rx_ct (rt_P sc fm) 123 765 = some (0, 363, 1) := (by decide +kernel : rt_ct 123 765 = some (0, 363, 1))
set_option maxRecDepth 100000 in
theorem wc_123_803 : rx_ct (rt_P sc fm) 123 803 = some (0, 442, 1) := (by decide +kernel : rt_ct 123 803 = some (0, 442, 1))
set_option maxRecDepth 100000 in
theorem wc_123_820 : rx_ct (rt_P sc fm) 123 820 = some (0, 444, 1) := (by decide +kernel : rt_ct 123 820 = some (0, 444, 1))
set_option maxRecDepth 100000 in
theorem wc_123_823 : rx_ct (rt_P sc fm) 123 823 = some (0, 445, 1) := (by decide +kernel : rt_ct 123 823 = some (0, 445, 1))
set_option maxRecDepth 100000 in
theorem wc_123_826 : rx_ct (rt_P sc fm) 123 826 = some (0, 446, 1) := (by decide +kernel : rt_ct 123 826 = some (0, 446, 1))
set_option maxRecDepth 100000 in
theorem wf_123_119 : rx_ft (rt_P sc fm) 123 119 = some (15, 25) := (by decide +kernel : rt_ft 123 119 = some (15, 25))
set_option maxRecDepth 100000 in
theorem wf_123_146 : rx_ft (rt_P sc fm) 123 146 = some (15, 35) := (by decide +kernel : rt_ft 123 146 = some (15, 35))
set_option maxRecDepth 100000 in
theorem wf_123_149 : rx_ft (rt_P sc fm) 123 149 = some (15, 36) := (by decide +kernel : rt_ft 123 149 = some (15, 36))
set_option maxRecDepth 100000 in
theorem wf_123_366 : rx_ft (rt_P sc fm) 123 366 = some (15, 4) := (by decide +kernel : rt_ft 123 366 = some (15, 4))
set_option maxRecDepth 100000 in
theorem wf_123_447 : rx_ft (rt_P sc fm) 123 447 = some (15, 15) := (by decide +kernel : rt_ft 123 447 = some (15, 15))
set_option maxRecDepth 100000 in
theorem wf_123_450 : rx_ft (rt_P sc fm) 123 450 = some (15, 24) := (by decide +kernel : rt_ft 123 450 = some (15, 24))
set_option maxRecDepth 100000 in
theorem wf_123_453 : rx_ft (rt_P sc fm) 123 453 = some (15, 34) := (by decide +kernel : rt_ft 123 453 = some (15, 34))
set_option maxRecDepth 100000 in
theorem wf_123_456 : rx_ft (rt_P sc fm) 123 456 = some (15, 37) := (by decide +kernel : rt_ft 123 456 = some (15, 37))
set_option maxRecDepth 100000 in
theorem wf_123_634 : rx_ft (rt_P sc fm) 123 634 = some (15, 14) := (by decide +kernel : rt_ft 123 634 = some (15, 14))
theorem wi_123_0 : ri (rt_P sc fm) 123 0 (.aload_n 0) (1) := ri_of (by decide +kernel) rfl
theorem wi_123_1 : ri (rt_P sc fm) 123 1 (.iconst 0) (2) := ri_of (by decide +kernel) rfl
theorem wi_123_100 : ri (rt_P sc fm) 123 100 (.aload_n 0) (101) := ri_of (by decide +kernel) rfl
theorem wi_123_101 : ri (rt_P sc fm) 123 101 (.getfield 119) (104) := ri_of (by decide +kernel) rfl
theorem wi_123_104 : ri (rt_P sc fm) 123 104 (.aload_n 0) (105) := ri_of (by decide +kernel) rfl
theorem wi_123_105 : ri (rt_P sc fm) 123 105 (.getfield 149) (108) := ri_of (by decide +kernel) rfl
theorem wi_123_108 : ri (rt_P sc fm) 123 108 (.iload_n 1) (109) := ri_of (by decide +kernel) rfl
theorem wi_123_109 : ri (rt_P sc fm) 123 109 (.iaload) (110) := ri_of (by decide +kernel) rfl
theorem wi_123_110 : ri (rt_P sc fm) 123 110 (.laload) (111) := ri_of (by decide +kernel) rfl
theorem wi_123_111 : ri (rt_P sc fm) 123 111 (.invokevirtual 765) (114) := ri_of (by decide +kernel) rfl
theorem wi_123_114 : ri (rt_P sc fm) 123 114 (.aload_n 0) (115) := ri_of (by decide +kernel) rfl
theorem wi_123_115 : ri (rt_P sc fm) 123 115 (.ldc 32) (117) := ri_of (by decide +kernel) rfl
theorem wi_123_117 : ri (rt_P sc fm) 123 117 (.invokevirtual 402) (120) := ri_of (by decide +kernel) rfl
theorem wi_123_12 : ri (rt_P sc fm) 123 12 (.iconst (-1)) (13) := ri_of (by decide +kernel) rfl
theorem wi_123_120 : ri (rt_P sc fm) 123 120 (.aload_n 0) (121) := ri_of (by decide +kernel) rfl
theorem wi_123_121 : ri (rt_P sc fm) 123 121 (.sipush 1212) (124) := ri_of (by decide +kernel) rfl
theorem wi_123_124 : ri (rt_P sc fm) 123 124 (.iload_n 1) (125) := ri_of (by decide +kernel) rfl
theorem wi_123_125 : ri (rt_P sc fm) 123 125 (.iadd) (126) := ri_of (by decide +kernel) rfl
theorem wi_123_126 : ri (rt_P sc fm) 123 126 (.invokevirtual 803) (129) := ri_of (by decide +kernel) rfl
theorem wi_123_129 : ri (rt_P sc fm) 123 129 (.aload_n 0) (130) := ri_of (by decide +kernel) rfl
theorem wi_123_13 : ri (rt_P sc fm) 123 13 (.ireturn) (14) := ri_of (by decide +kernel) rfl
theorem wi_123_130 : ri (rt_P sc fm) 123 130 (.ldc_w 801) (133) := ri_of (by decide +kernel) rfl
theorem wi_123_133 : ri (rt_P sc fm) 123 133 (.invokevirtual 402) (136) := ri_of (by decide +kernel) rfl
theorem wi_123_136 : ri (rt_P sc fm) 123 136 (.iinc 1 1) (139) := ri_of (by decide +kernel) rfl
theorem wi_123_139 : ri (rt_P sc fm) 123 139 (.goto (-71)) (142) := ri_of (by decide +kernel) rfl
theorem wi_123_14 : ri (rt_P sc fm) 123 14 (.aload_n 0) (15) := ri_of (by decide +kernel) rfl
theorem wi_123_142 : ri (rt_P sc fm) 123 142 (.iconst 0) (143) := ri_of (by decide +kernel) rfl
theorem wi_123_143 : ri (rt_P sc fm) 123 143 (.istore_n 1) (144) := ri_of (by decide +kernel) rfl
theorem wi_123_144 : ri (rt_P sc fm) 123 144 (.iload_n 1) (145) := ri_of (by decide +kernel) rfl
theorem wi_123_145 : ri (rt_P sc fm) 123 145 (.aload_n 0) (146) := ri_of (by decide +kernel) rfl
theorem wi_123_146 : ri (rt_P sc fm) 123 146 (.getfield 456) (149) := ri_of (by decide +kernel) rfl
theorem wi_123_149 : ri (rt_P sc fm) 123 149 (.if_icmp .ge 14) (152) := ri_of (by decide +kernel) rfl
theorem wi_123_15 : ri (rt_P sc fm) 123 15 (.iconst 0) (16) := ri_of (by decide +kernel) rfl
theorem wi_123_152 : ri (rt_P sc fm) 123 152 (.aload_n 0) (153) := ri_of (by decide +kernel) rfl
theorem wi_123_153 : ri (rt_P sc fm) 123 153 (.iload_n 1) (154) := ri_of (by decide +kernel) rfl
theorem wi_123_154 : ri (rt_P sc fm) 123 154 (.invokevirtual 826) (157) := ri_of (by decide +kernel) rfl
theorem wi_123_157 : ri (rt_P sc fm) 123 157 (.iinc 1 1) (160) := ri_of (by decide +kernel) rfl
theorem wi_123_16 : ri (rt_P sc fm) 123 16 (.putfield 366) (19) := ri_of (by decide +kernel) rfl
theorem wi_123_160 : ri (rt_P sc fm) 123 160 (.goto (-16)) (163) := ri_of (by decide +kernel) rfl
theorem wi_123_163 : ri (rt_P sc fm) 123 163 (.aload_n 0) (164) := ri_of (by decide +kernel) rfl
theorem wi_123_164 : ri (rt_P sc fm) 123 164 (.getfield 366) (167) := ri_of (by decide +kernel) rfl
theorem wi_123_167 : ri (rt_P sc fm) 123 167 (.ireturn) (168) := ri_of (by decide +kernel) rfl
theorem wi_123_19 : ri (rt_P sc fm) 123 19 (.aload_n 0) (20) := ri_of (by decide +kernel) rfl
theorem wi_123_2 : ri (rt_P sc fm) 123 2 (.putfield 356) (5) := ri_of (by decide +kernel) rfl
theorem wi_123_20 : ri (rt_P sc fm) 123 20 (.iconst 0) (21) := ri_of (by decide +kernel) rfl
theorem wi_123_21 : ri (rt_P sc fm) 123 21 (.putfield 378) (24) := ri_of (by decide +kernel) rfl
theorem wi_123_24 : ri (rt_P sc fm) 123 24 (.iconst 0) (25) := ri_of (by decide +kernel) rfl
theorem wi_123_25 : ri (rt_P sc fm) 123 25 (.istore_n 1) (26) := ri_of (by decide +kernel) rfl
theorem wi_123_26 : ri (rt_P sc fm) 123 26 (.iload_n 1) (27) := ri_of (by decide +kernel) rfl
theorem wi_123_27 : ri (rt_P sc fm) 123 27 (.aload_n 0) (28) := ri_of (by decide +kernel) rfl
theorem wi_123_28 : ri (rt_P sc fm) 123 28 (.getfield 447) (31) := ri_of (by decide +kernel) rfl
theorem wi_123_31 : ri (rt_P sc fm) 123 31 (.if_icmp .ge 14) (34) := ri_of (by decide +kernel) rfl
theorem wi_123_34 : ri (rt_P sc fm) 123 34 (.aload_n 0) (35) := ri_of (by decide +kernel) rfl
theorem wi_123_35 : ri (rt_P sc fm) 123 35 (.iload_n 1) (36) := ri_of (by decide +kernel) rfl
theorem wi_123_36 : ri (rt_P sc fm) 123 36 (.invokevirtual 820) (39) := ri_of (by decide +kernel) rfl
theorem wi_123_39 : ri (rt_P sc fm) 123 39 (.iinc 1 1) (42) := ri_of (by decide +kernel) rfl
theorem wi_123_42 : ri (rt_P sc fm) 123 42 (.goto (-16)) (45) := ri_of (by decide +kernel) rfl
theorem wi_123_45 : ri (rt_P sc fm) 123 45 (.iconst 0) (46) := ri_of (by decide +kernel) rfl
theorem wi_123_46 : ri (rt_P sc fm) 123 46 (.istore_n 1) (47) := ri_of (by decide +kernel) rfl
theorem wi_123_47 : ri (rt_P sc fm) 123 47 (.iload_n 1) (48) := ri_of (by decide +kernel) rfl
theorem wi_123_48 : ri (rt_P sc fm) 123 48 (.aload_n 0) (49) := ri_of (by decide +kernel) rfl
theorem wi_123_49 : ri (rt_P sc fm) 123 49 (.getfield 450) (52) := ri_of (by decide +kernel) rfl
theorem wi_123_5 : ri (rt_P sc fm) 123 5 (.aload_n 0) (6) := ri_of (by decide +kernel) rfl
theorem wi_123_52 : ri (rt_P sc fm) 123 52 (.if_icmp .ge 14) (55) := ri_of (by decide +kernel) rfl
theorem wi_123_55 : ri (rt_P sc fm) 123 55 (.aload_n 0) (56) := ri_of (by decide +kernel) rfl
theorem wi_123_56 : ri (rt_P sc fm) 123 56 (.iload_n 1) (57) := ri_of (by decide +kernel) rfl
theorem wi_123_57 : ri (rt_P sc fm) 123 57 (.invokevirtual 823) (60) := ri_of (by decide +kernel) rfl
theorem wi_123_6 : ri (rt_P sc fm) 123 6 (.getfield 634) (9) := ri_of (by decide +kernel) rfl
theorem wi_123_60 : ri (rt_P sc fm) 123 60 (.iinc 1 1) (63) := ri_of (by decide +kernel) rfl
theorem wi_123_63 : ri (rt_P sc fm) 123 63 (.goto (-16)) (66) := ri_of (by decide +kernel) rfl
theorem wi_123_66 : ri (rt_P sc fm) 123 66 (.iconst 0) (67) := ri_of (by decide +kernel) rfl
theorem wi_123_67 : ri (rt_P sc fm) 123 67 (.istore_n 1) (68) := ri_of (by decide +kernel) rfl
theorem wi_123_68 : ri (rt_P sc fm) 123 68 (.iload_n 1) (69) := ri_of (by decide +kernel) rfl
theorem wi_123_69 : ri (rt_P sc fm) 123 69 (.aload_n 0) (70) := ri_of (by decide +kernel) rfl
theorem wi_123_70 : ri (rt_P sc fm) 123 70 (.getfield 453) (73) := ri_of (by decide +kernel) rfl
theorem wi_123_73 : ri (rt_P sc fm) 123 73 (.if_icmp .ge 69) (76) := ri_of (by decide +kernel) rfl
theorem wi_123_76 : ri (rt_P sc fm) 123 76 (.aload_n 0) (77) := ri_of (by decide +kernel) rfl
theorem wi_123_77 : ri (rt_P sc fm) 123 77 (.ldc 30) (79) := ri_of (by decide +kernel) rfl
theorem wi_123_79 : ri (rt_P sc fm) 123 79 (.invokevirtual 402) (82) := ri_of (by decide +kernel) rfl
theorem wi_123_82 : ri (rt_P sc fm) 123 82 (.aload_n 0) (83) := ri_of (by decide +kernel) rfl
theorem wi_123_83 : ri (rt_P sc fm) 123 83 (.aload_n 0) (84) := ri_of (by decide +kernel) rfl
theorem wi_123_84 : ri (rt_P sc fm) 123 84 (.getfield 146) (87) := ri_of (by decide +kernel) rfl
theorem wi_123_87 : ri (rt_P sc fm) 123 87 (.iload_n 1) (88) := ri_of (by decide +kernel) rfl
theorem wi_123_88 : ri (rt_P sc fm) 123 88 (.laload) (89) := ri_of (by decide +kernel) rfl
theorem wi_123_89 : ri (rt_P sc fm) 123 89 (.invokevirtual 765) (92) := ri_of (by decide +kernel) rfl
theorem wi_123_9 : ri (rt_P sc fm) 123 9 (.ifCond .ne 5) (12) := ri_of (by decide +kernel) rfl
theorem wi_123_92 : ri (rt_P sc fm) 123 92 (.aload_n 0) (93) := ri_of (by decide +kernel) rfl
theorem wi_123_93 : ri (rt_P sc fm) 123 93 (.ldc_w 794) (96) := ri_of (by decide +kernel) rfl
theorem wi_123_96 : ri (rt_P sc fm) 123 96 (.invokevirtual 402) (99) := ri_of (by decide +kernel) rfl
theorem wi_123_99 : ri (rt_P sc fm) 123 99 (.aload_n 0) (100) := ri_of (by decide +kernel) rfl
set_option maxRecDepth 100000 in
theorem wk_123_30 : rx_kt (rt_P sc fm) 123 30 = some (.ref (rx_K 8)) := (by decide +kernel : rt_kt 123 30 = some (.ref (rx_K 8)))
set_option maxRecDepth 100000 in
theorem wk_123_32 : rx_kt (rt_P sc fm) 123 32 = some (.ref (rx_K 9)) := (by decide +kernel : rt_kt 123 32 = some (.ref (rx_K 9)))
set_option maxRecDepth 100000 in
theorem wk_123_794 : rx_kt (rt_P sc fm) 123 794 = some (.ref (rx_K 33)) := (by decide +kernel : rt_kt 123 794 = some (.ref (rx_K 33)))
set_option maxRecDepth 100000 in
theorem wk_123_801 : rx_kt (rt_P sc fm) 123 801 = some (.ref (rx_K 34)) := (by decide +kernel : rt_kt 123 801 = some (.ref (rx_K 34)))
set_option maxRecDepth 100000 in
theorem wm_444 : rx_ml (rt_P sc fm) 444 = 4 := (by decide +kernel : rt_ml 444 = 4)
set_option maxRecDepth 100000 in
theorem wm_445 : rx_ml (rt_P sc fm) 445 = 4 := (by decide +kernel : rt_ml 445 = 4)
set_option maxRecDepth 100000 in
theorem wm_446 : rx_ml (rt_P sc fm) 446 = 5 := (by decide +kernel : rt_ml 446 = 5)
set_option maxRecDepth 100000 in
theorem wp_123_356 : rx_pt (rt_P sc fm) 123 356 = some (15, 0, .int) := (by decide +kernel : rt_pt 123 356 = some (15, 0, .int))
set_option maxRecDepth 100000 in
theorem wp_123_366 : rx_pt (rt_P sc fm) 123 366 = some (15, 4, .int) := (by decide +kernel : rt_pt 123 366 = some (15, 4, .int))
set_option maxRecDepth 100000 in
theorem wp_123_378 : rx_pt (rt_P sc fm) 123 378 = some (15, 5, .boolean) := (by decide +kernel : rt_pt 123 378 = some (15, 5, .boolean))
set_option maxRecDepth 100000 in
theorem wr_123 : rx_rt (rt_P sc fm) 123 = (some FieldType.int) := (by decide +kernel : rt_rt 123 = (some FieldType.int))
/-- MarkHouseModel.tell()I -/
def d_123 (n : Nat)  (c : cS) : Option (Int32 × cS) :=
  lt (pI c 174 0 0) (fun c1 =>
  if (c1.1 174 14) = 0 then
    some ((-1), c1)
  else
    lt (pI c1 174 4 0) (fun c3 =>
    lt (pI c3 174 5 0) (fun c5 =>
    Option.bind (whl (R := (cS)) (fun s8 : Int32 × cS =>
      if (s8.2.1 174 15) ≤ s8.1 then
        some (.inr s8.2)
      else
        Option.bind (d_444 n s8.1 s8.2) (fun r9 =>
        lt (s8.1 + 1 : Int32) (fun v11 =>
        some (.inl (v11, r9))))) n (0, c5))
    (fun x13 : cS =>
      Option.bind (whl (R := (cS)) (fun s15 : Int32 × cS =>
        if (s15.2.1 174 24) ≤ s15.1 then
          some (.inr s15.2)
        else
          Option.bind (d_445 n s15.1 s15.2) (fun r16 =>
          lt (s15.1 + 1 : Int32) (fun v18 =>
          some (.inl (v18, r16))))) n (0, x13))
      (fun x20 : cS =>
        Option.bind (whl (R := (cS)) (fun s22 : Int32 × cS =>
          if (s22.2.1 174 34) ≤ s22.1 then
            some (.inr s22.2)
          else
            Option.bind (d_362 n 8 s22.2) (fun r23 =>
            if ib s22.1 6 then
            Option.bind (d_363 n (r23.2 198 (ix s22.1)) r23) (fun r25 =>
            Option.bind (d_362 n 33 r25) (fun r26 =>
            if ib s22.1 6 then
            if ib (r26.1 199 (ix s22.1)) 12 then
            Option.bind (d_363 n (r26.2 189 (ix (r26.1 199 (ix s22.1)))) r26) (fun r29 =>
            Option.bind (d_362 n 9 r29) (fun r30 =>
            Option.bind (d_442 n (1212 + s22.1) r30) (fun r31 =>
            Option.bind (d_362 n 34 r31) (fun r32 =>
            lt (s22.1 + 1 : Int32) (fun v34 =>
            some (.inl (v34, r32)))))))
            else none
            else none))
            else none)) n (0, x20))
        (fun x36 : cS =>
          Option.bind (whl (R := (cS)) (fun s38 : Int32 × cS =>
            if (s38.2.1 174 37) ≤ s38.1 then
              some (.inr s38.2)
            else
              Option.bind (d_446 n s38.1 s38.2) (fun r39 =>
              lt (s38.1 + 1 : Int32) (fun v41 =>
              some (.inl (v41, r39))))) n (0, x36))
          (fun x43 : cS =>
            some ((x43.1 174 4), x43))))))))
set_option maxRecDepth 100000 in
set_option maxHeartbeats 4000000 in
theorem sp_123 {F Lo n : Nat}  {c y : cS} {w : cW} {K : Int32 × cS → Prop} {Q : ((Option Value) ⊕ String) → List va_E → Prop} (hw : rOK fm w) (hF : 9 ≤ F) (hLo : 200 ≤ Lo)  (h : wp (d_123 n  c) K) (hQ : ∀ r, K r → Q (.inl (some (.int r.1))) (hq false r.2 y w)) : rs (rt_P sc fm) 123 F Lo 0 [(0, .ref 174)] [] (hq false c y w) Q := by
  unfold d_123 at h
  obtain ⟨lv, elv⟩ : ∃ lv : rx_L, lv = [(0, .ref 174)] := ⟨_, rfl⟩
  rw [← elv]
  have l0 : rx_ld lv 0 = some (.ref 174) := by rw [elv]; rfl
  refine rs_aldn wi_123_0 l0 ?_
  refine rs_pure wi_123_1 rfl ?_
  refine rs_topi (v := 0) (by decide) ?_
  obtain ⟨c1, e2, h⟩ := wp_lt h
  refine dq_pi wi_123_2 wp_123_356 tf_174_0 rfl rfl e2 ?_
  refine rs_aldn wi_123_5 l0 ?_
  refine dq_gi wi_123_6 wf_123_634 tf_174_14 ?_
  refine rs_ifne (tg := 14) wi_123_9 ⟨by decide, by decide⟩ (fun q => ?_) (fun q => ?_)
  ·
    have h := wp_neg h q
    refine rs_aldn wi_123_14 l0 ?_
    refine rs_pure wi_123_15 rfl ?_
    refine rs_topi (v := 0) (by decide) ?_
    obtain ⟨c3, e4, h⟩ := wp_lt h
    refine dq_pi wi_123_16 wp_123_366 tf_174_4 rfl rfl e4 ?_
    refine rs_aldn wi_123_19 l0 ?_
    refine rs_pure wi_123_20 rfl ?_
    refine rs_topi (v := 0) (by decide) ?_
    obtain ⟨c5, e6, h⟩ := wp_lt h
    refine dq_pi wi_123_21 wp_123_378 tf_174_5 (nb_n (by decide)) (nb_f (by decide)) e6 ?_
    refine rs_pure wi_123_24 rfl ?_
    refine rs_topi (v := 0) (by decide) ?_
    refine dl_istn wi_123_25 rfl (fun lv l1 t7 => ?_)
    have l0 := t7 _ _ (by decide) (Or.inl rfl) l0
    refine whl_ex (A := fun s8 : Int32 × cS => ∀ lv, rx_ld lv 0 = some (.ref 174) → rx_ld lv 1 = some (.int s8.1) → rs (rt_P sc fm) 123 F Lo 26 lv [] (hq false s8.2 y w) Q) (B := (fun x13 : cS => ∀ lv, rx_ld lv 0 = some (.ref 174) → rs (rt_P sc fm) 123 F Lo 45 lv [] (hq false x13 y w) Q)) ?_ ?_ _ _ (wp_bind h) _ l0 l1
    · intro s8 h lv l0 l1
      refine rs_ildn wi_123_26 l1 ?_
      refine rs_aldn wi_123_27 l0 ?_
      refine dq_gi wi_123_28 wf_123_447 tf_174_15 ?_
      refine rs_icge (tg := 45) wi_123_31 ⟨by decide, by decide⟩ (fun q => ?_) (fun q => ?_)
      ·
        have h := wp_pos h q
        exact h _ l0
      ·
        have h := wp_neg h q
        refine rs_aldn wi_123_34 l0 ?_
        refine rs_ildn wi_123_35 l1 ?_
        refine rs_V wi_123_36 wc_123_820 rfl (dq_isa tf_174_0 wa_15_444) (Nat.le_trans (by decide) hF) (ml_le wm_444 (Nat.le_trans (by decide) hLo)) rfl (sp_444 hw (Nat.le_trans (by decide : 5 ≤ 9 - 1) (Nat.sub_le_sub_right hF 1)) (ml_sub wm_444 (Nat.le_trans (by decide : 107 ≤ 200 - 23) (Nat.sub_le_sub_right hLo 23))) (wp_bind h) (fun r9 h => rs_back0 ?_))
        obtain ⟨v11, e12, h⟩ := wp_lt h
        refine dl_inc wi_123_39 l1 rfl e12 (fun lv l1 t10 => ?_)
        have l0 := t10 _ _ (by decide) (Or.inl rfl) l0
        refine rs_goto (tg := 26) wi_123_42 ⟨by decide, by decide⟩ ?_
        exact h _ l0 l1
    ·
      intro x13 h lv l0
      refine rs_pure wi_123_45 rfl ?_
      refine rs_topi (v := 0) (by decide) ?_
      refine dl_istn wi_123_46 rfl (fun lv l1 t14 => ?_)
      have l0 := t14 _ _ (by decide) (Or.inl rfl) l0
      refine whl_ex (A := fun s15 : Int32 × cS => ∀ lv, rx_ld lv 0 = some (.ref 174) → rx_ld lv 1 = some (.int s15.1) → rs (rt_P sc fm) 123 F Lo 47 lv [] (hq false s15.2 y w) Q) (B := (fun x20 : cS => ∀ lv, rx_ld lv 0 = some (.ref 174) → rs (rt_P sc fm) 123 F Lo 66 lv [] (hq false x20 y w) Q)) ?_ ?_ _ _ (wp_bind h) _ l0 l1
      · intro s15 h lv l0 l1
        refine rs_ildn wi_123_47 l1 ?_
        refine rs_aldn wi_123_48 l0 ?_
        refine dq_gi wi_123_49 wf_123_450 tf_174_24 ?_
        refine rs_icge (tg := 66) wi_123_52 ⟨by decide, by decide⟩ (fun q => ?_) (fun q => ?_)
        ·
          have h := wp_pos h q
          exact h _ l0
        ·
          have h := wp_neg h q
          refine rs_aldn wi_123_55 l0 ?_
          refine rs_ildn wi_123_56 l1 ?_
          refine rs_V wi_123_57 wc_123_823 rfl (dq_isa tf_174_0 wa_15_445) (Nat.le_trans (by decide) hF) (ml_le wm_445 (Nat.le_trans (by decide) hLo)) rfl (sp_445 hw (Nat.le_trans (by decide : 8 ≤ 9 - 1) (Nat.sub_le_sub_right hF 1)) (ml_sub wm_445 (Nat.le_trans (by decide : 176 ≤ 200 - 23) (Nat.sub_le_sub_right hLo 23))) (wp_bind h) (fun r16 h => rs_back0 ?_))
          obtain ⟨v18, e19, h⟩ := wp_lt h
          refine dl_inc wi_123_60 l1 rfl e19 (fun lv l1 t17 => ?_)
          have l0 := t17 _ _ (by decide) (Or.inl rfl) l0
          refine rs_goto (tg := 47) wi_123_63 ⟨by decide, by decide⟩ ?_
          exact h _ l0 l1
      ·
        intro x20 h lv l0
        refine rs_pure wi_123_66 rfl ?_
        refine rs_topi (v := 0) (by decide) ?_
        refine dl_istn wi_123_67 rfl (fun lv l1 t21 => ?_)
        have l0 := t21 _ _ (by decide) (Or.inl rfl) l0
        refine whl_ex (A := fun s22 : Int32 × cS => ∀ lv, rx_ld lv 0 = some (.ref 174) → rx_ld lv 1 = some (.int s22.1) → rs (rt_P sc fm) 123 F Lo 68 lv [] (hq false s22.2 y w) Q) (B := (fun x36 : cS => ∀ lv, rx_ld lv 0 = some (.ref 174) → rs (rt_P sc fm) 123 F Lo 142 lv [] (hq false x36 y w) Q)) ?_ ?_ _ _ (wp_bind h) _ l0 l1
        · intro s22 h lv l0 l1
          refine rs_ildn wi_123_68 l1 ?_
          refine rs_aldn wi_123_69 l0 ?_
          refine dq_gi wi_123_70 wf_123_453 tf_174_34 ?_
          refine rs_icge (tg := 142) wi_123_73 ⟨by decide, by decide⟩ (fun q => ?_) (fun q => ?_)
          ·
            have h := wp_pos h q
            exact h _ l0
          ·
            have h := wp_neg h q
            refine rs_aldn wi_123_76 l0 ?_
            refine rs_ldcS wi_123_77 wk_123_30 ?_
            refine rs_V wi_123_79 wc_123_402 rfl (dq_isa tf_174_0 wa_15_362) (Nat.le_trans (by decide) hF) (ml_le wm_362 (Nat.le_trans (by decide) hLo)) rfl (sp_362 hw (Nat.le_trans (by decide : 4 ≤ 9 - 1) (Nat.sub_le_sub_right hF 1)) (ml_sub wm_362 (Nat.le_trans (by decide : 85 ≤ 200 - 22) (Nat.sub_le_sub_right hLo 22))) wsb_8 (wp_bind h) (fun r23 h => rs_back0 ?_))
            refine rs_aldn wi_123_82 l0 ?_
            refine rs_aldn wi_123_83 l0 ?_
            refine dq_gr wi_123_84 wf_123_146 tf_174_35 ?_
            refine rs_ildn wi_123_87 l1 ?_
            obtain ⟨g24, h⟩ := wp_gd h
            refine dq_lald wi_123_88 t_198 g24 ?_
            refine rs_V wi_123_89 wc_123_765 rfl (dq_isa tf_174_0 wa_15_363) (Nat.le_trans (by decide) hF) (ml_le wm_363 (Nat.le_trans (by decide) hLo)) rfl (sp_363 hw (Nat.le_trans (by decide : 2 ≤ 9 - 1) (Nat.sub_le_sub_right hF 1)) (ml_sub wm_363 (Nat.le_trans (by decide : 44 ≤ 200 - 22) (Nat.sub_le_sub_right hLo 22))) (wp_bind h) (fun r25 h => rs_back0 ?_))
            refine rs_aldn wi_123_92 l0 ?_
            refine rs_ldcwS wi_123_93 wk_123_794 ?_
            refine rs_V wi_123_96 wc_123_402 rfl (dq_isa tf_174_0 wa_15_362) (Nat.le_trans (by decide) hF) (ml_le wm_362 (Nat.le_trans (by decide) hLo)) rfl (sp_362 hw (Nat.le_trans (by decide : 4 ≤ 9 - 1) (Nat.sub_le_sub_right hF 1)) (ml_sub wm_362 (Nat.le_trans (by decide : 85 ≤ 200 - 22) (Nat.sub_le_sub_right hLo 22))) wsb_33 (wp_bind h) (fun r26 h => rs_back0 ?_))
            refine rs_aldn wi_123_99 l0 ?_
            refine rs_aldn wi_123_100 l0 ?_
            refine dq_gr wi_123_101 wf_123_119 tf_174_25 ?_
            refine rs_aldn wi_123_104 l0 ?_
            refine dq_gr wi_123_105 wf_123_149 tf_174_36 ?_
            refine rs_ildn wi_123_108 l1 ?_
            obtain ⟨g27, h⟩ := wp_gd h
            refine dq_iald wi_123_109 t_199 g27 ?_
            obtain ⟨g28, h⟩ := wp_gd h
            refine dq_lald wi_123_110 t_189 g28 ?_
            refine rs_V wi_123_111 wc_123_765 rfl (dq_isa tf_174_0 wa_15_363) (Nat.le_trans (by decide) hF) (ml_le wm_363 (Nat.le_trans (by decide) hLo)) rfl (sp_363 hw (Nat.le_trans (by decide : 2 ≤ 9 - 1) (Nat.sub_le_sub_right hF 1)) (ml_sub wm_363 (Nat.le_trans (by decide : 44 ≤ 200 - 22) (Nat.sub_le_sub_right hLo 22))) (wp_bind h) (fun r29 h => rs_back0 ?_))
            refine rs_aldn wi_123_114 l0 ?_
            refine rs_ldcS wi_123_115 wk_123_32 ?_
            refine rs_V wi_123_117 wc_123_402 rfl (dq_isa tf_174_0 wa_15_362) (Nat.le_trans (by decide) hF) (ml_le wm_362 (Nat.le_trans (by decide) hLo)) rfl (sp_362 hw (Nat.le_trans (by decide : 4 ≤ 9 - 1) (Nat.sub_le_sub_right hF 1)) (ml_sub wm_362 (Nat.le_trans (by decide : 85 ≤ 200 - 22) (Nat.sub_le_sub_right hLo 22))) wsb_9 (wp_bind h) (fun r30 h => rs_back0 ?_))
            refine rs_aldn wi_123_120 l0 ?_
            refine rs_pure wi_123_121 rfl ?_
            refine rs_topi (v := 1212) (by decide) ?_
            refine rs_ildn wi_123_124 l1 ?_
            refine rs_pure wi_123_125 rfl ?_
            refine rs_V wi_123_126 wc_123_803 rfl (dq_isa tf_174_0 wa_15_442) (Nat.le_trans (by decide) hF) (ml_le wm_442 (Nat.le_trans (by decide) hLo)) rfl (sp_442 hw (Nat.le_trans (by decide : 7 ≤ 9 - 1) (Nat.sub_le_sub_right hF 1)) (ml_sub wm_442 (Nat.le_trans (by decide : 154 ≤ 200 - 22) (Nat.sub_le_sub_right hLo 22))) (wp_bind h) (fun r31 h => rs_back0 ?_))
            refine rs_aldn wi_123_129 l0 ?_
            refine rs_ldcwS wi_123_130 wk_123_801 ?_
            refine rs_V wi_123_133 wc_123_402 rfl (dq_isa tf_174_0 wa_15_362) (Nat.le_trans (by decide) hF) (ml_le wm_362 (Nat.le_trans (by decide) hLo)) rfl (sp_362 hw (Nat.le_trans (by decide : 4 ≤ 9 - 1) (Nat.sub_le_sub_right hF 1)) (ml_sub wm_362 (Nat.le_trans (by decide : 85 ≤ 200 - 22) (Nat.sub_le_sub_right hLo 22))) wsb_34 (wp_bind h) (fun r32 h => rs_back0 ?_))
            obtain ⟨v34, e35, h⟩ := wp_lt h
            refine dl_inc wi_123_136 l1 rfl e35 (fun lv l1 t33 => ?_)
            have l0 := t33 _ _ (by decide) (Or.inl rfl) l0
            refine rs_goto (tg := 68) wi_123_139 ⟨by decide, by decide⟩ ?_
            exact h _ l0 l1
        ·
          intro x36 h lv l0
          refine rs_pure wi_123_142 rfl ?_
          refine rs_topi (v := 0) (by decide) ?_
          refine dl_istn wi_123_143 rfl (fun lv l1 t37 => ?_)
          have l0 := t37 _ _ (by decide) (Or.inl rfl) l0
          refine whl_ex (A := fun s38 : Int32 × cS => ∀ lv, rx_ld lv 0 = some (.ref 174) → rx_ld lv 1 = some (.int s38.1) → rs (rt_P sc fm) 123 F Lo 144 lv [] (hq false s38.2 y w) Q) (B := (fun x43 : cS => ∀ lv, rx_ld lv 0 = some (.ref 174) → rs (rt_P sc fm) 123 F Lo 163 lv [] (hq false x43 y w) Q)) ?_ ?_ _ _ (wp_bind h) _ l0 l1
          · intro s38 h lv l0 l1
            refine rs_ildn wi_123_144 l1 ?_
            refine rs_aldn wi_123_145 l0 ?_
            refine dq_gi wi_123_146 wf_123_456 tf_174_37 ?_
            refine rs_icge (tg := 163) wi_123_149 ⟨by decide, by decide⟩ (fun q => ?_) (fun q => ?_)
            ·
              have h := wp_pos h q
              exact h _ l0
            ·
              have h := wp_neg h q
              refine rs_aldn wi_123_152 l0 ?_
              refine rs_ildn wi_123_153 l1 ?_
              refine rs_V wi_123_154 wc_123_826 rfl (dq_isa tf_174_0 wa_15_446) (Nat.le_trans (by decide) hF) (ml_le wm_446 (Nat.le_trans (by decide) hLo)) rfl (sp_446 hw (Nat.le_trans (by decide : 8 ≤ 9 - 1) (Nat.sub_le_sub_right hF 1)) (ml_sub wm_446 (Nat.le_trans (by decide : 176 ≤ 200 - 24) (Nat.sub_le_sub_right hLo 24))) (wp_bind h) (fun r39 h => rs_back0 ?_))
              obtain ⟨v41, e42, h⟩ := wp_lt h
              refine dl_inc wi_123_157 l1 rfl e42 (fun lv l1 t40 => ?_)
              have l0 := t40 _ _ (by decide) (Or.inl rfl) l0
              refine rs_goto (tg := 144) wi_123_160 ⟨by decide, by decide⟩ ?_
              exact h _ l0 l1
          ·
            intro x43 h lv l0
            refine rs_aldn wi_123_163 l0 ?_
            refine dq_gi wi_123_164 wf_123_366 tf_174_4 ?_
            exact rs_iret wi_123_167 wr_123 rfl (hQ ((x43.1 174 4), x43) h)
  ·
    have h := wp_pos h q
    refine rs_pure wi_123_12 rfl ?_
    refine rs_topi (v := (-1)) (by decide) ?_
    exact rs_iret wi_123_13 wr_123 rfl (hQ ((-1), c1) h)
theorem t_234 : ta false 234 3 72 := ⟨rfl, by decide, by decide⟩
theorem tf_174_83 : fo false 174 15 83 (.ref 234) := ⟨_, rfl, rfl, by decide, by decide⟩
set_option maxRecDepth 100000 in
theorem wc_124_543 : rx_ct (rt_P sc fm) 124 543 = some (0, 392, 2) := (by decide +kernel : rt_ct 124 543 = some (0, 392, 2))
set_option maxRecDepth 100000 in
theorem wc_124_551 : rx_ct (rt_P sc fm) 124 551 = some (0, 395, 3) := (by decide +kernel : rt_ct 124 551 = some (0, 395, 3))
set_option maxRecDepth 100000 in
theorem wc_124_637 : rx_ct (rt_P sc fm) 124 637 = some (0, 133, 0) := (by decide +kernel : rt_ct 124 637 = some (0, 133, 0))
set_option maxRecDepth 100000 in
theorem wc_124_712 : rx_ct (rt_P sc fm) 124 712 = some (0, 428, 2) := (by decide +kernel : rt_ct 124 712 = some (0, 428, 2))
set_option maxRecDepth 100000 in
theorem wc_124_754 : rx_ct (rt_P sc fm) 124 754 = some (0, 437, 2) := (by decide +kernel : rt_ct 124 754 = some (0, 437, 2))
set_option maxRecDepth 100000 in
theorem wf_124_149 : rx_ft (rt_P sc fm) 124 149 = some (15, 36) := (by decide +kernel : rt_ft 124 149 = some (15, 36))
set_option maxRecDepth 100000 in
theorem wf_124_218 : rx_ft (rt_P sc fm) 124 218 = some (15, 60) := (by decide +kernel : rt_ft 124 218 = some (15, 60))
set_option maxRecDepth 100000 in
theorem wf_124_221 : rx_ft (rt_P sc fm) 124 221 = some (15, 61) := (by decide +kernel : rt_ft 124 221 = some (15, 61))
set_option maxRecDepth 100000 in
theorem wf_124_255 : rx_ft (rt_P sc fm) 124 255 = some (15, 83) := (by decide +kernel : rt_ft 124 255 = some (15, 83))
set_option maxRecDepth 100000 in
theorem wf_124_453 : rx_ft (rt_P sc fm) 124 453 = some (15, 34) := (by decide +kernel : rt_ft 124 453 = some (15, 34))
set_option maxRecDepth 100000 in
theorem wf_124_456 : rx_ft (rt_P sc fm) 124 456 = some (15, 37) := (by decide +kernel : rt_ft 124 456 = some (15, 37))
set_option maxRecDepth 100000 in
theorem wf_124_634 : rx_ft (rt_P sc fm) 124 634 = some (15, 14) := (by decide +kernel : rt_ft 124 634 = some (15, 14))
set_option maxRecDepth 100000 in
theorem wf_124_678 : rx_ft (rt_P sc fm) 124 678 = some (15, 74) := (by decide +kernel : rt_ft 124 678 = some (15, 74))
theorem wi_124_0 : ri (rt_P sc fm) 124 0 (.aload_n 0) (1) := ri_of (by decide +kernel) rfl
theorem wi_124_1 : ri (rt_P sc fm) 124 1 (.iconst 0) (2) := ri_of (by decide +kernel) rfl
theorem wi_124_100 : ri (rt_P sc fm) 124 100 (.aload_n 0) (101) := ri_of (by decide +kernel) rfl
theorem wi_124_101 : ri (rt_P sc fm) 124 101 (.getfield 453) (104) := ri_of (by decide +kernel) rfl
theorem wi_124_104 : ri (rt_P sc fm) 124 104 (.if_icmp .ge 142) (107) := ri_of (by decide +kernel) rfl
theorem wi_124_107 : ri (rt_P sc fm) 124 107 (.iconst 0) (108) := ri_of (by decide +kernel) rfl
theorem wi_124_108 : ri (rt_P sc fm) 124 108 (.istore 4) (110) := ri_of (by decide +kernel) rfl
theorem wi_124_110 : ri (rt_P sc fm) 124 110 (.iload 4) (112) := ri_of (by decide +kernel) rfl
theorem wi_124_112 : ri (rt_P sc fm) 124 112 (.aload_n 0) (113) := ri_of (by decide +kernel) rfl
theorem wi_124_113 : ri (rt_P sc fm) 124 113 (.getfield 456) (116) := ri_of (by decide +kernel) rfl
theorem wi_124_116 : ri (rt_P sc fm) 124 116 (.if_icmp .ge 124) (119) := ri_of (by decide +kernel) rfl
theorem wi_124_119 : ri (rt_P sc fm) 124 119 (.sipush 1212) (122) := ri_of (by decide +kernel) rfl
theorem wi_124_12 : ri (rt_P sc fm) 124 12 (.iconst (-1)) (13) := ri_of (by decide +kernel) rfl
theorem wi_124_122 : ri (rt_P sc fm) 124 122 (.iload_n 3) (123) := ri_of (by decide +kernel) rfl
theorem wi_124_123 : ri (rt_P sc fm) 124 123 (.iadd) (124) := ri_of (by decide +kernel) rfl
theorem wi_124_124 : ri (rt_P sc fm) 124 124 (.istore 5) (126) := ri_of (by decide +kernel) rfl
theorem wi_124_126 : ri (rt_P sc fm) 124 126 (.iconst 0) (127) := ri_of (by decide +kernel) rfl
theorem wi_124_127 : ri (rt_P sc fm) 124 127 (.istore 6) (129) := ri_of (by decide +kernel) rfl
theorem wi_124_129 : ri (rt_P sc fm) 124 129 (.iload 6) (131) := ri_of (by decide +kernel) rfl
theorem wi_124_13 : ri (rt_P sc fm) 124 13 (.ireturn) (14) := ri_of (by decide +kernel) rfl
theorem wi_124_131 : ri (rt_P sc fm) 124 131 (.aload_n 0) (132) := ri_of (by decide +kernel) rfl
theorem wi_124_132 : ri (rt_P sc fm) 124 132 (.getfield 218) (135) := ri_of (by decide +kernel) rfl
theorem wi_124_135 : ri (rt_P sc fm) 124 135 (.iload 5) (137) := ri_of (by decide +kernel) rfl
theorem wi_124_137 : ri (rt_P sc fm) 124 137 (.iaload) (138) := ri_of (by decide +kernel) rfl
theorem wi_124_138 : ri (rt_P sc fm) 124 138 (.if_icmp .ge 96) (141) := ri_of (by decide +kernel) rfl
theorem wi_124_14 : ri (rt_P sc fm) 124 14 (.iconst 0) (15) := ri_of (by decide +kernel) rfl
theorem wi_124_141 : ri (rt_P sc fm) 124 141 (.aload_n 0) (142) := ri_of (by decide +kernel) rfl
theorem wi_124_142 : ri (rt_P sc fm) 124 142 (.getfield 255) (145) := ri_of (by decide +kernel) rfl
theorem wi_124_145 : ri (rt_P sc fm) 124 145 (.bipush 12) (147) := ri_of (by decide +kernel) rfl
theorem wi_124_147 : ri (rt_P sc fm) 124 147 (.iload_n 3) (148) := ri_of (by decide +kernel) rfl
theorem wi_124_148 : ri (rt_P sc fm) 124 148 (.imul) (149) := ri_of (by decide +kernel) rfl
theorem wi_124_149 : ri (rt_P sc fm) 124 149 (.iload 4) (151) := ri_of (by decide +kernel) rfl
theorem wi_124_15 : ri (rt_P sc fm) 124 15 (.istore_n 1) (16) := ri_of (by decide +kernel) rfl
theorem wi_124_151 : ri (rt_P sc fm) 124 151 (.iadd) (152) := ri_of (by decide +kernel) rfl
theorem wi_124_152 : ri (rt_P sc fm) 124 152 (.baload) (153) := ri_of (by decide +kernel) rfl
theorem wi_124_153 : ri (rt_P sc fm) 124 153 (.ifCond .eq 81) (156) := ri_of (by decide +kernel) rfl
theorem wi_124_156 : ri (rt_P sc fm) 124 156 (.aload_n 0) (157) := ri_of (by decide +kernel) rfl
theorem wi_124_157 : ri (rt_P sc fm) 124 157 (.getfield 218) (160) := ri_of (by decide +kernel) rfl
theorem wi_124_16 : ri (rt_P sc fm) 124 16 (.iconst 1) (17) := ri_of (by decide +kernel) rfl
theorem wi_124_160 : ri (rt_P sc fm) 124 160 (.bipush 100) (162) := ri_of (by decide +kernel) rfl
theorem wi_124_162 : ri (rt_P sc fm) 124 162 (.iload 4) (164) := ri_of (by decide +kernel) rfl
theorem wi_124_164 : ri (rt_P sc fm) 124 164 (.imul) (165) := ri_of (by decide +kernel) rfl
theorem wi_124_165 : ri (rt_P sc fm) 124 165 (.iaload) (166) := ri_of (by decide +kernel) rfl
theorem wi_124_166 : ri (rt_P sc fm) 124 166 (.bipush 20) (168) := ri_of (by decide +kernel) rfl
theorem wi_124_168 : ri (rt_P sc fm) 124 168 (.if_icmp .eq 60) (171) := ri_of (by decide +kernel) rfl
theorem wi_124_17 : ri (rt_P sc fm) 124 17 (.istore_n 2) (18) := ri_of (by decide +kernel) rfl
theorem wi_124_171 : ri (rt_P sc fm) 124 171 (.aload_n 0) (172) := ri_of (by decide +kernel) rfl
theorem wi_124_172 : ri (rt_P sc fm) 124 172 (.bipush 100) (174) := ri_of (by decide +kernel) rfl
theorem wi_124_174 : ri (rt_P sc fm) 124 174 (.iload 4) (176) := ri_of (by decide +kernel) rfl
theorem wi_124_176 : ri (rt_P sc fm) 124 176 (.imul) (177) := ri_of (by decide +kernel) rfl
theorem wi_124_177 : ri (rt_P sc fm) 124 177 (.aload_n 0) (178) := ri_of (by decide +kernel) rfl
theorem wi_124_178 : ri (rt_P sc fm) 124 178 (.getfield 218) (181) := ri_of (by decide +kernel) rfl
theorem wi_124_18 : ri (rt_P sc fm) 124 18 (.iload_n 2) (19) := ri_of (by decide +kernel) rfl
theorem wi_124_181 : ri (rt_P sc fm) 124 181 (.bipush 100) (183) := ri_of (by decide +kernel) rfl
theorem wi_124_183 : ri (rt_P sc fm) 124 183 (.iload 4) (185) := ri_of (by decide +kernel) rfl
theorem wi_124_185 : ri (rt_P sc fm) 124 185 (.imul) (186) := ri_of (by decide +kernel) rfl
theorem wi_124_186 : ri (rt_P sc fm) 124 186 (.iaload) (187) := ri_of (by decide +kernel) rfl
theorem wi_124_187 : ri (rt_P sc fm) 124 187 (.aload_n 0) (188) := ri_of (by decide +kernel) rfl
theorem wi_124_188 : ri (rt_P sc fm) 124 188 (.getfield 221) (191) := ri_of (by decide +kernel) rfl
theorem wi_124_19 : ri (rt_P sc fm) 124 19 (.ifCond .eq 242) (22) := ri_of (by decide +kernel) rfl
theorem wi_124_191 : ri (rt_P sc fm) 124 191 (.aload_n 0) (192) := ri_of (by decide +kernel) rfl
theorem wi_124_192 : ri (rt_P sc fm) 124 192 (.iload 5) (194) := ri_of (by decide +kernel) rfl
theorem wi_124_194 : ri (rt_P sc fm) 124 194 (.iload 6) (196) := ri_of (by decide +kernel) rfl
theorem wi_124_196 : ri (rt_P sc fm) 124 196 (.invokevirtual 543) (199) := ri_of (by decide +kernel) rfl
theorem wi_124_199 : ri (rt_P sc fm) 124 199 (.laload) (200) := ri_of (by decide +kernel) rfl
theorem wi_124_2 : ri (rt_P sc fm) 124 2 (.putfield 356) (5) := ri_of (by decide +kernel) rfl
theorem wi_124_200 : ri (rt_P sc fm) 124 200 (.invokevirtual 551) (203) := ri_of (by decide +kernel) rfl
theorem wi_124_203 : ri (rt_P sc fm) 124 203 (.ifCond .eq 6) (206) := ri_of (by decide +kernel) rfl
theorem wi_124_206 : ri (rt_P sc fm) 124 206 (.goto 22) (209) := ri_of (by decide +kernel) rfl
theorem wi_124_209 : ri (rt_P sc fm) 124 209 (.aload_n 0) (210) := ri_of (by decide +kernel) rfl
theorem wi_124_210 : ri (rt_P sc fm) 124 210 (.aload_n 0) (211) := ri_of (by decide +kernel) rfl
theorem wi_124_211 : ri (rt_P sc fm) 124 211 (.iload 5) (213) := ri_of (by decide +kernel) rfl
theorem wi_124_213 : ri (rt_P sc fm) 124 213 (.iload 6) (215) := ri_of (by decide +kernel) rfl
theorem wi_124_215 : ri (rt_P sc fm) 124 215 (.invokevirtual 543) (218) := ri_of (by decide +kernel) rfl
theorem wi_124_218 : ri (rt_P sc fm) 124 218 (.bipush 100) (220) := ri_of (by decide +kernel) rfl
theorem wi_124_22 : ri (rt_P sc fm) 124 22 (.iconst 0) (23) := ri_of (by decide +kernel) rfl
theorem wi_124_220 : ri (rt_P sc fm) 124 220 (.iload 4) (222) := ri_of (by decide +kernel) rfl
theorem wi_124_222 : ri (rt_P sc fm) 124 222 (.imul) (223) := ri_of (by decide +kernel) rfl
theorem wi_124_223 : ri (rt_P sc fm) 124 223 (.invokevirtual 754) (226) := ri_of (by decide +kernel) rfl
theorem wi_124_226 : ri (rt_P sc fm) 124 226 (.iconst 1) (227) := ri_of (by decide +kernel) rfl
theorem wi_124_227 : ri (rt_P sc fm) 124 227 (.istore_n 2) (228) := ri_of (by decide +kernel) rfl
theorem wi_124_228 : ri (rt_P sc fm) 124 228 (.iinc 6 1) (231) := ri_of (by decide +kernel) rfl
theorem wi_124_23 : ri (rt_P sc fm) 124 23 (.istore_n 3) (24) := ri_of (by decide +kernel) rfl
theorem wi_124_231 : ri (rt_P sc fm) 124 231 (.goto (-102)) (234) := ri_of (by decide +kernel) rfl
theorem wi_124_234 : ri (rt_P sc fm) 124 234 (.iinc 4 1) (237) := ri_of (by decide +kernel) rfl
theorem wi_124_237 : ri (rt_P sc fm) 124 237 (.goto (-127)) (240) := ri_of (by decide +kernel) rfl
theorem wi_124_24 : ri (rt_P sc fm) 124 24 (.iload_n 3) (25) := ri_of (by decide +kernel) rfl
theorem wi_124_240 : ri (rt_P sc fm) 124 240 (.iinc 3 1) (243) := ri_of (by decide +kernel) rfl
theorem wi_124_243 : ri (rt_P sc fm) 124 243 (.goto (-144)) (246) := ri_of (by decide +kernel) rfl
theorem wi_124_246 : ri (rt_P sc fm) 124 246 (.iload_n 1) (247) := ri_of (by decide +kernel) rfl
theorem wi_124_247 : ri (rt_P sc fm) 124 247 (.iload_n 2) (248) := ri_of (by decide +kernel) rfl
theorem wi_124_248 : ri (rt_P sc fm) 124 248 (.ifCond .eq 7) (251) := ri_of (by decide +kernel) rfl
theorem wi_124_25 : ri (rt_P sc fm) 124 25 (.aload_n 0) (26) := ri_of (by decide +kernel) rfl
theorem wi_124_251 : ri (rt_P sc fm) 124 251 (.iconst 1) (252) := ri_of (by decide +kernel) rfl
theorem wi_124_252 : ri (rt_P sc fm) 124 252 (.goto 4) (255) := ri_of (by decide +kernel) rfl
theorem wi_124_255 : ri (rt_P sc fm) 124 255 (.iconst 0) (256) := ri_of (by decide +kernel) rfl
theorem wi_124_256 : ri (rt_P sc fm) 124 256 (.iadd) (257) := ri_of (by decide +kernel) rfl
theorem wi_124_257 : ri (rt_P sc fm) 124 257 (.istore_n 1) (258) := ri_of (by decide +kernel) rfl
theorem wi_124_258 : ri (rt_P sc fm) 124 258 (.goto (-240)) (261) := ri_of (by decide +kernel) rfl
theorem wi_124_26 : ri (rt_P sc fm) 124 26 (.getfield 453) (29) := ri_of (by decide +kernel) rfl
theorem wi_124_261 : ri (rt_P sc fm) 124 261 (.aload_n 0) (262) := ri_of (by decide +kernel) rfl
theorem wi_124_262 : ri (rt_P sc fm) 124 262 (.invokevirtual 637) (265) := ri_of (by decide +kernel) rfl
theorem wi_124_265 : ri (rt_P sc fm) 124 265 (.iload_n 1) (266) := ri_of (by decide +kernel) rfl
theorem wi_124_266 : ri (rt_P sc fm) 124 266 (.ireturn) (267) := ri_of (by decide +kernel) rfl
theorem wi_124_29 : ri (rt_P sc fm) 124 29 (.if_icmp .ge 66) (32) := ri_of (by decide +kernel) rfl
theorem wi_124_32 : ri (rt_P sc fm) 124 32 (.iconst 0) (33) := ri_of (by decide +kernel) rfl
theorem wi_124_33 : ri (rt_P sc fm) 124 33 (.istore 4) (35) := ri_of (by decide +kernel) rfl
theorem wi_124_35 : ri (rt_P sc fm) 124 35 (.iload 4) (37) := ri_of (by decide +kernel) rfl
theorem wi_124_37 : ri (rt_P sc fm) 124 37 (.aload_n 0) (38) := ri_of (by decide +kernel) rfl
theorem wi_124_38 : ri (rt_P sc fm) 124 38 (.getfield 456) (41) := ri_of (by decide +kernel) rfl
theorem wi_124_41 : ri (rt_P sc fm) 124 41 (.if_icmp .ge 48) (44) := ri_of (by decide +kernel) rfl
theorem wi_124_44 : ri (rt_P sc fm) 124 44 (.aload_n 0) (45) := ri_of (by decide +kernel) rfl
theorem wi_124_45 : ri (rt_P sc fm) 124 45 (.bipush 100) (47) := ri_of (by decide +kernel) rfl
theorem wi_124_47 : ri (rt_P sc fm) 124 47 (.iload 4) (49) := ri_of (by decide +kernel) rfl
theorem wi_124_49 : ri (rt_P sc fm) 124 49 (.imul) (50) := ri_of (by decide +kernel) rfl
theorem wi_124_5 : ri (rt_P sc fm) 124 5 (.aload_n 0) (6) := ri_of (by decide +kernel) rfl
theorem wi_124_50 : ri (rt_P sc fm) 124 50 (.aload_n 0) (51) := ri_of (by decide +kernel) rfl
theorem wi_124_51 : ri (rt_P sc fm) 124 51 (.getfield 149) (54) := ri_of (by decide +kernel) rfl
theorem wi_124_54 : ri (rt_P sc fm) 124 54 (.iload_n 3) (55) := ri_of (by decide +kernel) rfl
theorem wi_124_55 : ri (rt_P sc fm) 124 55 (.iaload) (56) := ri_of (by decide +kernel) rfl
theorem wi_124_56 : ri (rt_P sc fm) 124 56 (.invokevirtual 712) (59) := ri_of (by decide +kernel) rfl
theorem wi_124_59 : ri (rt_P sc fm) 124 59 (.aload_n 0) (60) := ri_of (by decide +kernel) rfl
theorem wi_124_6 : ri (rt_P sc fm) 124 6 (.getfield 634) (9) := ri_of (by decide +kernel) rfl
theorem wi_124_60 : ri (rt_P sc fm) 124 60 (.getfield 255) (63) := ri_of (by decide +kernel) rfl
theorem wi_124_63 : ri (rt_P sc fm) 124 63 (.bipush 12) (65) := ri_of (by decide +kernel) rfl
theorem wi_124_65 : ri (rt_P sc fm) 124 65 (.iload_n 3) (66) := ri_of (by decide +kernel) rfl
theorem wi_124_66 : ri (rt_P sc fm) 124 66 (.imul) (67) := ri_of (by decide +kernel) rfl
theorem wi_124_67 : ri (rt_P sc fm) 124 67 (.iload 4) (69) := ri_of (by decide +kernel) rfl
theorem wi_124_69 : ri (rt_P sc fm) 124 69 (.iadd) (70) := ri_of (by decide +kernel) rfl
theorem wi_124_70 : ri (rt_P sc fm) 124 70 (.aload_n 0) (71) := ri_of (by decide +kernel) rfl
theorem wi_124_71 : ri (rt_P sc fm) 124 71 (.getfield 678) (74) := ri_of (by decide +kernel) rfl
theorem wi_124_74 : ri (rt_P sc fm) 124 74 (.ifCond .le 7) (77) := ri_of (by decide +kernel) rfl
theorem wi_124_77 : ri (rt_P sc fm) 124 77 (.iconst 1) (78) := ri_of (by decide +kernel) rfl
theorem wi_124_78 : ri (rt_P sc fm) 124 78 (.goto 4) (81) := ri_of (by decide +kernel) rfl
theorem wi_124_81 : ri (rt_P sc fm) 124 81 (.iconst 0) (82) := ri_of (by decide +kernel) rfl
theorem wi_124_82 : ri (rt_P sc fm) 124 82 (.bastore) (83) := ri_of (by decide +kernel) rfl
theorem wi_124_83 : ri (rt_P sc fm) 124 83 (.iinc 4 1) (86) := ri_of (by decide +kernel) rfl
theorem wi_124_86 : ri (rt_P sc fm) 124 86 (.goto (-51)) (89) := ri_of (by decide +kernel) rfl
theorem wi_124_89 : ri (rt_P sc fm) 124 89 (.iinc 3 1) (92) := ri_of (by decide +kernel) rfl
theorem wi_124_9 : ri (rt_P sc fm) 124 9 (.ifCond .ne 5) (12) := ri_of (by decide +kernel) rfl
theorem wi_124_92 : ri (rt_P sc fm) 124 92 (.goto (-68)) (95) := ri_of (by decide +kernel) rfl
theorem wi_124_95 : ri (rt_P sc fm) 124 95 (.iconst 0) (96) := ri_of (by decide +kernel) rfl
theorem wi_124_96 : ri (rt_P sc fm) 124 96 (.istore_n 2) (97) := ri_of (by decide +kernel) rfl
theorem wi_124_97 : ri (rt_P sc fm) 124 97 (.iconst 0) (98) := ri_of (by decide +kernel) rfl
theorem wi_124_98 : ri (rt_P sc fm) 124 98 (.istore_n 3) (99) := ri_of (by decide +kernel) rfl
theorem wi_124_99 : ri (rt_P sc fm) 124 99 (.iload_n 3) (100) := ri_of (by decide +kernel) rfl
set_option maxRecDepth 100000 in
theorem wp_124_356 : rx_pt (rt_P sc fm) 124 356 = some (15, 0, .int) := (by decide +kernel : rt_pt 124 356 = some (15, 0, .int))
set_option maxRecDepth 100000 in
theorem wr_124 : rx_rt (rt_P sc fm) 124 = (some FieldType.int) := (by decide +kernel : rt_rt 124 = (some FieldType.int))
/-- MarkHouseModel.rounds()I -/
def d_124 (n : Nat)  (c : cS) : Option (Int32 × cS) :=
  lt (pI c 174 0 0) (fun c1 =>
  if (c1.1 174 14) = 0 then
    some ((-1), c1)
  else
    Option.bind (whl (R := (Int32 × cS)) (fun s5 : Int32 × Int32 × cS =>
      if s5.2.1 = 0 then
        some (.inr (s5.1, s5.2.2))
      else
        Option.bind (whl (R := (cS)) (fun s7 : Int32 × cS =>
          if (s7.2.1 174 34) ≤ s7.1 then
            some (.inr s7.2)
          else
            Option.bind (whl (R := (cS)) (fun s9 : Int32 × cS =>
              if (s9.2.1 174 37) ≤ s9.1 then
                some (.inr s9.2)
              else
                if ib s7.1 6 then
                Option.bind (d_428 n (100 * s9.1) (s9.2.1 199 (ix s7.1)) s9.2) (fun r11 =>
                jn (fun p12 : Int32 =>
                  if ib ((12 * s7.1) + s9.1) 72 then
                  lt (pI r11 234 (ix ((12 * s7.1) + s9.1)) (vp_nar .boolean p12)) (fun c14 =>
                  lt (s9.1 + 1 : Int32) (fun v17 =>
                  some (.inl (v17, c14))))
                  else none)
                (fun j82 =>
                if (r11.1 174 74) ≤ 0 then
                  j82 0
                else
                  j82 1))
                else none) n (0, s7.2))
            (fun x19 : cS =>
              lt (s7.1 + 1 : Int32) (fun v21 =>
              some (.inl (v21, x19))))) n (0, s5.2.2))
        (fun x23 : cS =>
          Option.bind (whl (R := (Int32 × cS)) (fun s26 : Int32 × Int32 × cS =>
            if (s26.2.2.1 174 34) ≤ s26.2.1 then
              some (.inr (s26.1, s26.2.2))
            else
              Option.bind (whl (R := (Int32 × cS)) (fun s28 : Int32 × Int32 × cS =>
                if (s28.2.2.1 174 37) ≤ s28.2.1 then
                  some (.inr (s28.1, s28.2.2))
                else
                  lt ((1212 + s26.2.1) : Int32) (fun v30 =>
                  Option.bind (whl (R := (Int32 × cS)) (fun s33 : Int32 × Int32 × cS =>
                    if ib v30 1219 then
                    if (s33.2.2.1 222 (ix v30)) ≤ s33.2.1 then
                      some (.inr (s33.1, s33.2.2))
                    else
                      if ib ((12 * s26.2.1) + s28.2.1) 72 then
                      if (s33.2.2.1 234 (ix ((12 * s26.2.1) + s28.2.1))) = 0 then
                        some (.inr (s33.1, s33.2.2))
                      else
                        if ib (100 * s28.2.1) 1219 then
                        jn (fun p37 : Int32 × cS =>
                          lt (s33.2.1 + 1 : Int32) (fun v39 =>
                          some (.inl (p37.1, v39, p37.2))))
                        (fun j228 =>
                        if (s33.2.2.1 222 (ix (100 * s28.2.1))) = 20 then
                          j228 (s33.1, s33.2.2)
                        else
                          if ib (100 * s28.2.1) 1219 then
                          Option.bind (d_392 n v30 s33.2.1) (fun v42 =>
                          if ib v42 24380 then
                          Option.bind (d_395 n (100 * s28.2.1) (s33.2.2.1 222 (ix (100 * s28.2.1))) (s33.2.2.2 223 (ix v42)) s33.2.2) (fun v44 =>
                          if v44 = 0 then
                            Option.bind (d_392 n v30 s33.2.1) (fun v45 =>
                            Option.bind (d_437 n v45 (100 * s28.2.1) s33.2.2) (fun r46 =>
                            j228 (1, r46)))
                          else
                            j228 (s33.1, s33.2.2))
                          else none)
                          else none)
                        else none
                      else none
                    else none) n (s28.1, 0, s28.2.2))
                  (fun x48 : Int32 × cS =>
                    lt (s28.2.1 + 1 : Int32) (fun v50 =>
                    some (.inl (x48.1, v50, x48.2)))))) n (s26.1, 0, s26.2.2))
              (fun x52 : Int32 × cS =>
                lt (s26.2.1 + 1 : Int32) (fun v54 =>
                some (.inl (x52.1, v54, x52.2))))) n (0, 0, x23))
          (fun x56 : Int32 × cS =>
            jn (fun p57 : Int32 =>
              lt ((s5.1 + p57) : Int32) (fun v59 =>
              some (.inl (v59, x56.1, x56.2))))
            (fun j256 =>
            if x56.1 = 0 then
              j256 0
            else
              j256 1)))) n (0, 1, c1))
    (fun x61 : Int32 × cS =>
      Option.bind (d_133 n x61.2) (fun r62 =>
      some (x61.1, r62))))
set_option maxRecDepth 100000 in
set_option maxHeartbeats 4000000 in
theorem sp_124 {F Lo n : Nat}  {c y : cS} {w : cW} {K : Int32 × cS → Prop} {Q : ((Option Value) ⊕ String) → List va_E → Prop} (hw : rOK fm w) (hF : 4 ≤ F) (hLo : 105 ≤ Lo)  (h : wp (d_124 n  c) K) (hQ : ∀ r, K r → Q (.inl (some (.int r.1))) (hq false r.2 y w)) : rs (rt_P sc fm) 124 F Lo 0 [(0, .ref 174)] [] (hq false c y w) Q := by
  unfold d_124 at h
  obtain ⟨lv, elv⟩ : ∃ lv : rx_L, lv = [(0, .ref 174)] := ⟨_, rfl⟩
  rw [← elv]
  have l0 : rx_ld lv 0 = some (.ref 174) := by rw [elv]; rfl
  refine rs_aldn wi_124_0 l0 ?_
  refine rs_pure wi_124_1 rfl ?_
  refine rs_topi (v := 0) (by decide) ?_
  obtain ⟨c1, e2, h⟩ := wp_lt h
  refine dq_pi wi_124_2 wp_124_356 tf_174_0 rfl rfl e2 ?_
  refine rs_aldn wi_124_5 l0 ?_
  refine dq_gi wi_124_6 wf_124_634 tf_174_14 ?_
  refine rs_ifne (tg := 14) wi_124_9 ⟨by decide, by decide⟩ (fun q => ?_) (fun q => ?_)
  ·
    have h := wp_neg h q
    refine rs_pure wi_124_14 rfl ?_
    refine rs_topi (v := 0) (by decide) ?_
    refine dl_istn wi_124_15 rfl (fun lv l1 t3 => ?_)
    have l0 := t3 _ _ (by decide) (Or.inl rfl) l0
    refine rs_pure wi_124_16 rfl ?_
    refine rs_topi (v := 1) (by decide) ?_
    refine dl_istn wi_124_17 rfl (fun lv l2 t4 => ?_)
    have l0 := t4 _ _ (by decide) (Or.inl rfl) l0
    have l1 := t4 _ _ (by decide) (Or.inl rfl) l1
    refine whl_ex (A := fun s5 : Int32 × Int32 × cS => ∀ lv, rx_ld lv 0 = some (.ref 174) → rx_ld lv 1 = some (.int s5.1) → rx_ld lv 2 = some (.int s5.2.1) → rs (rt_P sc fm) 124 F Lo 18 lv [] (hq false s5.2.2 y w) Q) (B := (fun x61 : Int32 × cS => ∀ lv, rx_ld lv 0 = some (.ref 174) → rx_ld lv 1 = some (.int x61.1) → rs (rt_P sc fm) 124 F Lo 261 lv [] (hq false x61.2 y w) Q)) ?_ ?_ _ _ (wp_bind h) _ l0 l1 l2
    · intro s5 h lv l0 l1 l2
      refine rs_ildn wi_124_18 l2 ?_
      refine rs_ifeq (tg := 261) wi_124_19 ⟨by decide, by decide⟩ (fun q => ?_) (fun q => ?_)
      ·
        have h := wp_pos h q
        exact h _ l0 l1
      ·
        have h := wp_neg h q
        refine rs_pure wi_124_22 rfl ?_
        refine rs_topi (v := 0) (by decide) ?_
        refine dl_istn wi_124_23 rfl (fun lv l3 t6 => ?_)
        have l0 := t6 _ _ (by decide) (Or.inl rfl) l0
        have l1 := t6 _ _ (by decide) (Or.inl rfl) l1
        refine whl_ex (A := fun s7 : Int32 × cS => ∀ lv, rx_ld lv 0 = some (.ref 174) → rx_ld lv 1 = some (.int s5.1) → rx_ld lv 3 = some (.int s7.1) → rs (rt_P sc fm) 124 F Lo 24 lv [] (hq false s7.2 y w) Q) (B := (fun x23 : cS => ∀ lv, rx_ld lv 0 = some (.ref 174) → rx_ld lv 1 = some (.int s5.1) → rs (rt_P sc fm) 124 F Lo 95 lv [] (hq false x23 y w) Q)) ?_ ?_ _ _ (wp_bind h) _ l0 l1 l3
        · intro s7 h lv l0 l1 l3
          refine rs_ildn wi_124_24 l3 ?_
          refine rs_aldn wi_124_25 l0 ?_
          refine dq_gi wi_124_26 wf_124_453 tf_174_34 ?_
          refine rs_icge (tg := 95) wi_124_29 ⟨by decide, by decide⟩ (fun q => ?_) (fun q => ?_)
          ·
            have h := wp_pos h q
            exact h _ l0 l1
          ·
            have h := wp_neg h q
            refine rs_pure wi_124_32 rfl ?_
            refine rs_topi (v := 0) (by decide) ?_
            refine dl_ist wi_124_33 rfl (fun lv l4 t8 => ?_)
            have l0 := t8 _ _ (by decide) (Or.inl rfl) l0
            have l1 := t8 _ _ (by decide) (Or.inl rfl) l1
            have l3 := t8 _ _ (by decide) (Or.inl rfl) l3
            refine whl_ex (A := fun s9 : Int32 × cS => ∀ lv, rx_ld lv 0 = some (.ref 174) → rx_ld lv 1 = some (.int s5.1) → rx_ld lv 3 = some (.int s7.1) → rx_ld lv 4 = some (.int s9.1) → rs (rt_P sc fm) 124 F Lo 35 lv [] (hq false s9.2 y w) Q) (B := (fun x19 : cS => ∀ lv, rx_ld lv 0 = some (.ref 174) → rx_ld lv 1 = some (.int s5.1) → rx_ld lv 3 = some (.int s7.1) → rs (rt_P sc fm) 124 F Lo 89 lv [] (hq false x19 y w) Q)) ?_ ?_ _ _ (wp_bind h) _ l0 l1 l3 l4
            · intro s9 h lv l0 l1 l3 l4
              refine rs_ild wi_124_35 l4 ?_
              refine rs_aldn wi_124_37 l0 ?_
              refine dq_gi wi_124_38 wf_124_456 tf_174_37 ?_
              refine rs_icge (tg := 89) wi_124_41 ⟨by decide, by decide⟩ (fun q => ?_) (fun q => ?_)
              ·
                have h := wp_pos h q
                exact h _ l0 l1 l3
              ·
                have h := wp_neg h q
                refine rs_aldn wi_124_44 l0 ?_
                refine rs_pure wi_124_45 rfl ?_
                refine rs_topi (v := 100) (by decide) ?_
                refine rs_ild wi_124_47 l4 ?_
                refine rs_pure wi_124_49 rfl ?_
                refine rs_aldn wi_124_50 l0 ?_
                refine dq_gr wi_124_51 wf_124_149 tf_174_36 ?_
                refine rs_ildn wi_124_54 l3 ?_
                obtain ⟨g10, h⟩ := wp_gd h
                refine dq_iald wi_124_55 t_199 g10 ?_
                refine rs_V wi_124_56 wc_124_712 rfl (dq_isa tf_174_0 wa_15_428) (Nat.le_trans (by decide) hF) (ml_le wm_428 (Nat.le_trans (by decide) hLo)) rfl (sp_428 hw (Nat.le_trans (by decide : 3 ≤ 4 - 1) (Nat.sub_le_sub_right hF 1)) (ml_sub wm_428 (Nat.le_trans (by decide : 77 ≤ 105 - 28) (Nat.sub_le_sub_right hLo 28))) (wp_bind h) (fun r11 h => rs_back0 ?_))
                refine rs_aldn wi_124_59 l0 ?_
                refine dq_gr wi_124_60 wf_124_255 tf_174_83 ?_
                refine rs_pure wi_124_63 rfl ?_
                refine rs_topi (v := 12) (by decide) ?_
                refine rs_ildn wi_124_65 l3 ?_
                refine rs_pure wi_124_66 rfl ?_
                refine rs_ild wi_124_67 l4 ?_
                refine rs_pure wi_124_69 rfl ?_
                refine rs_aldn wi_124_70 l0 ?_
                refine dq_gi wi_124_71 wf_124_678 tf_174_74 ?_
                refine wp_jn (B := fun p12 : Int32 => ∀ lv, rx_ld lv 0 = some (.ref 174) → rx_ld lv 1 = some (.int s5.1) → rx_ld lv 3 = some (.int s7.1) → rx_ld lv 4 = some (.int s9.1) → rs (rt_P sc fm) 124 F Lo 82 lv [.int p12, .int ((12 * s7.1) + s9.1), .ref 234] (hq false r11 y w) Q) h (fun p12 h lv l0 l1 l3 l4 => ?_) (fun j82 hj82 h => ?_)
                ·
                  obtain ⟨g13, h⟩ := wp_gd h
                  obtain ⟨c14, e15, h⟩ := wp_lt h
                  refine dq_zast wi_124_82 t_234 g13 e15 ?_
                  obtain ⟨v17, e18, h⟩ := wp_lt h
                  refine dl_inc wi_124_83 l4 rfl e18 (fun lv l4 t16 => ?_)
                  have l0 := t16 _ _ (by decide) (Or.inl rfl) l0
                  have l1 := t16 _ _ (by decide) (Or.inl rfl) l1
                  have l3 := t16 _ _ (by decide) (Or.inl rfl) l3
                  refine rs_goto (tg := 35) wi_124_86 ⟨by decide, by decide⟩ ?_
                  exact h _ l0 l1 l3 l4
                refine rs_ifle (tg := 81) wi_124_74 ⟨by decide, by decide⟩ (fun q => ?_) (fun q => ?_)
                ·
                  have h := wp_pos h q
                  refine rs_pure wi_124_81 rfl ?_
                  refine rs_topi (v := 0) (by decide) ?_
                  exact hj82 _ h _ l0 l1 l3 l4
                ·
                  have h := wp_neg h q
                  refine rs_pure wi_124_77 rfl ?_
                  refine rs_topi (v := 1) (by decide) ?_
                  refine rs_goto (tg := 82) wi_124_78 ⟨by decide, by decide⟩ ?_
                  exact hj82 _ h _ l0 l1 l3 l4
            ·
              intro x19 h lv l0 l1 l3
              obtain ⟨v21, e22, h⟩ := wp_lt h
              refine dl_inc wi_124_89 l3 rfl e22 (fun lv l3 t20 => ?_)
              have l0 := t20 _ _ (by decide) (Or.inl rfl) l0
              have l1 := t20 _ _ (by decide) (Or.inl rfl) l1
              refine rs_goto (tg := 24) wi_124_92 ⟨by decide, by decide⟩ ?_
              exact h _ l0 l1 l3
        ·
          intro x23 h lv l0 l1
          refine rs_pure wi_124_95 rfl ?_
          refine rs_topi (v := 0) (by decide) ?_
          refine dl_istn wi_124_96 rfl (fun lv l2 t24 => ?_)
          have l0 := t24 _ _ (by decide) (Or.inl rfl) l0
          have l1 := t24 _ _ (by decide) (Or.inl rfl) l1
          refine rs_pure wi_124_97 rfl ?_
          refine rs_topi (v := 0) (by decide) ?_
          refine dl_istn wi_124_98 rfl (fun lv l3 t25 => ?_)
          have l0 := t25 _ _ (by decide) (Or.inl rfl) l0
          have l1 := t25 _ _ (by decide) (Or.inl rfl) l1
          have l2 := t25 _ _ (by decide) (Or.inl rfl) l2
          refine whl_ex (A := fun s26 : Int32 × Int32 × cS => ∀ lv, rx_ld lv 0 = some (.ref 174) → rx_ld lv 1 = some (.int s5.1) → rx_ld lv 2 = some (.int s26.1) → rx_ld lv 3 = some (.int s26.2.1) → rs (rt_P sc fm) 124 F Lo 99 lv [] (hq false s26.2.2 y w) Q) (B := (fun x56 : Int32 × cS => ∀ lv, rx_ld lv 0 = some (.ref 174) → rx_ld lv 1 = some (.int s5.1) → rx_ld lv 2 = some (.int x56.1) → rs (rt_P sc fm) 124 F Lo 246 lv [] (hq false x56.2 y w) Q)) ?_ ?_ _ _ (wp_bind h) _ l0 l1 l2 l3
          · intro s26 h lv l0 l1 l2 l3
            refine rs_ildn wi_124_99 l3 ?_
            refine rs_aldn wi_124_100 l0 ?_
            refine dq_gi wi_124_101 wf_124_453 tf_174_34 ?_
            refine rs_icge (tg := 246) wi_124_104 ⟨by decide, by decide⟩ (fun q => ?_) (fun q => ?_)
            ·
              have h := wp_pos h q
              exact h _ l0 l1 l2
            ·
              have h := wp_neg h q
              refine rs_pure wi_124_107 rfl ?_
              refine rs_topi (v := 0) (by decide) ?_
              refine dl_ist wi_124_108 rfl (fun lv l4 t27 => ?_)
              have l0 := t27 _ _ (by decide) (Or.inl rfl) l0
              have l1 := t27 _ _ (by decide) (Or.inl rfl) l1
              have l2 := t27 _ _ (by decide) (Or.inl rfl) l2
              have l3 := t27 _ _ (by decide) (Or.inl rfl) l3
              refine whl_ex (A := fun s28 : Int32 × Int32 × cS => ∀ lv, rx_ld lv 0 = some (.ref 174) → rx_ld lv 1 = some (.int s5.1) → rx_ld lv 2 = some (.int s28.1) → rx_ld lv 3 = some (.int s26.2.1) → rx_ld lv 4 = some (.int s28.2.1) → rs (rt_P sc fm) 124 F Lo 110 lv [] (hq false s28.2.2 y w) Q) (B := (fun x52 : Int32 × cS => ∀ lv, rx_ld lv 0 = some (.ref 174) → rx_ld lv 1 = some (.int s5.1) → rx_ld lv 2 = some (.int x52.1) → rx_ld lv 3 = some (.int s26.2.1) → rs (rt_P sc fm) 124 F Lo 240 lv [] (hq false x52.2 y w) Q)) ?_ ?_ _ _ (wp_bind h) _ l0 l1 l2 l3 l4
              · intro s28 h lv l0 l1 l2 l3 l4
                refine rs_ild wi_124_110 l4 ?_
                refine rs_aldn wi_124_112 l0 ?_
                refine dq_gi wi_124_113 wf_124_456 tf_174_37 ?_
                refine rs_icge (tg := 240) wi_124_116 ⟨by decide, by decide⟩ (fun q => ?_) (fun q => ?_)
                ·
                  have h := wp_pos h q
                  exact h _ l0 l1 l2 l3
                ·
                  have h := wp_neg h q
                  refine rs_pure wi_124_119 rfl ?_
                  refine rs_topi (v := 1212) (by decide) ?_
                  refine rs_ildn wi_124_122 l3 ?_
                  refine rs_pure wi_124_123 rfl ?_
                  obtain ⟨v30, e31, h⟩ := wp_lt h
                  refine rs_topi e31 ?_
                  refine dl_ist wi_124_124 rfl (fun lv l5 t29 => ?_)
                  have l0 := t29 _ _ (by decide) (Or.inl rfl) l0
                  have l1 := t29 _ _ (by decide) (Or.inl rfl) l1
                  have l2 := t29 _ _ (by decide) (Or.inl rfl) l2
                  have l3 := t29 _ _ (by decide) (Or.inl rfl) l3
                  have l4 := t29 _ _ (by decide) (Or.inl rfl) l4
                  refine rs_pure wi_124_126 rfl ?_
                  refine rs_topi (v := 0) (by decide) ?_
                  refine dl_ist wi_124_127 rfl (fun lv l6 t32 => ?_)
                  have l0 := t32 _ _ (by decide) (Or.inl rfl) l0
                  have l1 := t32 _ _ (by decide) (Or.inl rfl) l1
                  have l2 := t32 _ _ (by decide) (Or.inl rfl) l2
                  have l3 := t32 _ _ (by decide) (Or.inl rfl) l3
                  have l4 := t32 _ _ (by decide) (Or.inl rfl) l4
                  have l5 := t32 _ _ (by decide) (Or.inl rfl) l5
                  refine whl_ex (A := fun s33 : Int32 × Int32 × cS => ∀ lv, rx_ld lv 0 = some (.ref 174) → rx_ld lv 1 = some (.int s5.1) → rx_ld lv 2 = some (.int s33.1) → rx_ld lv 3 = some (.int s26.2.1) → rx_ld lv 4 = some (.int s28.2.1) → rx_ld lv 5 = some (.int v30) → rx_ld lv 6 = some (.int s33.2.1) → rs (rt_P sc fm) 124 F Lo 129 lv [] (hq false s33.2.2 y w) Q) (B := (fun x48 : Int32 × cS => ∀ lv, rx_ld lv 0 = some (.ref 174) → rx_ld lv 1 = some (.int s5.1) → rx_ld lv 2 = some (.int x48.1) → rx_ld lv 3 = some (.int s26.2.1) → rx_ld lv 4 = some (.int s28.2.1) → rs (rt_P sc fm) 124 F Lo 234 lv [] (hq false x48.2 y w) Q)) ?_ ?_ _ _ (wp_bind h) _ l0 l1 l2 l3 l4 l5 l6
                  · intro s33 h lv l0 l1 l2 l3 l4 l5 l6
                    refine rs_ild wi_124_129 l6 ?_
                    refine rs_aldn wi_124_131 l0 ?_
                    refine dq_gr wi_124_132 wf_124_218 tf_174_60 ?_
                    refine rs_ild wi_124_135 l5 ?_
                    obtain ⟨g34, h⟩ := wp_gd h
                    refine dq_iald wi_124_137 t_222 g34 ?_
                    refine rs_icge (tg := 234) wi_124_138 ⟨by decide, by decide⟩ (fun q => ?_) (fun q => ?_)
                    ·
                      have h := wp_pos h q
                      exact h _ l0 l1 l2 l3 l4
                    ·
                      have h := wp_neg h q
                      refine rs_aldn wi_124_141 l0 ?_
                      refine dq_gr wi_124_142 wf_124_255 tf_174_83 ?_
                      refine rs_pure wi_124_145 rfl ?_
                      refine rs_topi (v := 12) (by decide) ?_
                      refine rs_ildn wi_124_147 l3 ?_
                      refine rs_pure wi_124_148 rfl ?_
                      refine rs_ild wi_124_149 l4 ?_
                      refine rs_pure wi_124_151 rfl ?_
                      obtain ⟨g35, h⟩ := wp_gd h
                      refine dq_zald wi_124_152 t_234 g35 ?_
                      refine rs_ifeq (tg := 234) wi_124_153 ⟨by decide, by decide⟩ (fun q => ?_) (fun q => ?_)
                      ·
                        have h := wp_pos h q
                        exact h _ l0 l1 l2 l3 l4
                      ·
                        have h := wp_neg h q
                        refine rs_aldn wi_124_156 l0 ?_
                        refine dq_gr wi_124_157 wf_124_218 tf_174_60 ?_
                        refine rs_pure wi_124_160 rfl ?_
                        refine rs_topi (v := 100) (by decide) ?_
                        refine rs_ild wi_124_162 l4 ?_
                        refine rs_pure wi_124_164 rfl ?_
                        obtain ⟨g36, h⟩ := wp_gd h
                        refine dq_iald wi_124_165 t_222 g36 ?_
                        refine rs_pure wi_124_166 rfl ?_
                        refine rs_topi (v := 20) (by decide) ?_
                        refine wp_jn (B := fun p37 : Int32 × cS => ∀ lv, rx_ld lv 0 = some (.ref 174) → rx_ld lv 1 = some (.int s5.1) → rx_ld lv 2 = some (.int p37.1) → rx_ld lv 3 = some (.int s26.2.1) → rx_ld lv 4 = some (.int s28.2.1) → rx_ld lv 5 = some (.int v30) → rx_ld lv 6 = some (.int s33.2.1) → rs (rt_P sc fm) 124 F Lo 228 lv [] (hq false p37.2 y w) Q) h (fun p37 h lv l0 l1 l2 l3 l4 l5 l6 => ?_) (fun j228 hj228 h => ?_)
                        ·
                          obtain ⟨v39, e40, h⟩ := wp_lt h
                          refine dl_inc wi_124_228 l6 rfl e40 (fun lv l6 t38 => ?_)
                          have l0 := t38 _ _ (by decide) (Or.inl rfl) l0
                          have l1 := t38 _ _ (by decide) (Or.inl rfl) l1
                          have l2 := t38 _ _ (by decide) (Or.inl rfl) l2
                          have l3 := t38 _ _ (by decide) (Or.inl rfl) l3
                          have l4 := t38 _ _ (by decide) (Or.inl rfl) l4
                          have l5 := t38 _ _ (by decide) (Or.inl rfl) l5
                          refine rs_goto (tg := 129) wi_124_231 ⟨by decide, by decide⟩ ?_
                          exact h _ l0 l1 l2 l3 l4 l5 l6
                        refine rs_iceq (tg := 228) wi_124_168 ⟨by decide, by decide⟩ (fun q => ?_) (fun q => ?_)
                        ·
                          have h := wp_pos h q
                          exact hj228 _ h _ l0 l1 l2 l3 l4 l5 l6
                        ·
                          have h := wp_neg h q
                          refine rs_aldn wi_124_171 l0 ?_
                          refine rs_pure wi_124_172 rfl ?_
                          refine rs_topi (v := 100) (by decide) ?_
                          refine rs_ild wi_124_174 l4 ?_
                          refine rs_pure wi_124_176 rfl ?_
                          refine rs_aldn wi_124_177 l0 ?_
                          refine dq_gr wi_124_178 wf_124_218 tf_174_60 ?_
                          refine rs_pure wi_124_181 rfl ?_
                          refine rs_topi (v := 100) (by decide) ?_
                          refine rs_ild wi_124_183 l4 ?_
                          refine rs_pure wi_124_185 rfl ?_
                          obtain ⟨g41, h⟩ := wp_gd h
                          refine dq_iald wi_124_186 t_222 g41 ?_
                          refine rs_aldn wi_124_187 l0 ?_
                          refine dq_gr wi_124_188 wf_124_221 tf_174_61 ?_
                          refine rs_aldn wi_124_191 l0 ?_
                          refine rs_ild wi_124_192 l5 ?_
                          refine rs_ild wi_124_194 l6 ?_
                          refine rs_V wi_124_196 wc_124_543 rfl (dq_isa tf_174_0 wa_15_392) (Nat.le_trans (by decide) hF) (ml_le wm_392 (Nat.le_trans (by decide) hLo)) rfl (sp_392 (Nat.le_trans (by decide : 0 ≤ 4 - 1) (Nat.sub_le_sub_right hF 1)) (ml_sub wm_392 (Nat.le_trans (by decide : 0 ≤ 105 - 22) (Nat.sub_le_sub_right hLo 22))) (wp_bind h) (fun v42 h => rs_back1 ?_))
                          obtain ⟨g43, h⟩ := wp_gd h
                          refine dq_lald wi_124_199 t_223 g43 ?_
                          refine rs_V wi_124_200 wc_124_551 rfl (dq_isa tf_174_0 wa_15_395) (Nat.le_trans (by decide) hF) (ml_le wm_395 (Nat.le_trans (by decide) hLo)) rfl (sp_395 hw (Nat.le_trans (by decide : 1 ≤ 4 - 1) (Nat.sub_le_sub_right hF 1)) (ml_sub wm_395 (Nat.le_trans (by decide : 22 ≤ 105 - 26) (Nat.sub_le_sub_right hLo 26))) (wp_bind h) (fun v44 h => rs_back1 ?_))
                          refine rs_ifeq (tg := 209) wi_124_203 ⟨by decide, by decide⟩ (fun q => ?_) (fun q => ?_)
                          ·
                            have h := wp_pos h q
                            refine rs_aldn wi_124_209 l0 ?_
                            refine rs_aldn wi_124_210 l0 ?_
                            refine rs_ild wi_124_211 l5 ?_
                            refine rs_ild wi_124_213 l6 ?_
                            refine rs_V wi_124_215 wc_124_543 rfl (dq_isa tf_174_0 wa_15_392) (Nat.le_trans (by decide) hF) (ml_le wm_392 (Nat.le_trans (by decide) hLo)) rfl (sp_392 (Nat.le_trans (by decide : 0 ≤ 4 - 1) (Nat.sub_le_sub_right hF 1)) (ml_sub wm_392 (Nat.le_trans (by decide : 0 ≤ 105 - 22) (Nat.sub_le_sub_right hLo 22))) (wp_bind h) (fun v45 h => rs_back1 ?_))
                            refine rs_pure wi_124_218 rfl ?_
                            refine rs_topi (v := 100) (by decide) ?_
                            refine rs_ild wi_124_220 l4 ?_
                            refine rs_pure wi_124_222 rfl ?_
                            refine rs_V wi_124_223 wc_124_754 rfl (dq_isa tf_174_0 wa_15_437) (Nat.le_trans (by decide) hF) (ml_le wm_437 (Nat.le_trans (by decide) hLo)) rfl (sp_437 hw (Nat.le_trans (by decide : 2 ≤ 4 - 1) (Nat.sub_le_sub_right hF 1)) (ml_sub wm_437 (Nat.le_trans (by decide : 47 ≤ 105 - 24) (Nat.sub_le_sub_right hLo 24))) (wp_bind h) (fun r46 h => rs_back0 ?_))
                            refine rs_pure wi_124_226 rfl ?_
                            refine rs_topi (v := 1) (by decide) ?_
                            refine dl_istn wi_124_227 rfl (fun lv l2 t47 => ?_)
                            have l0 := t47 _ _ (by decide) (Or.inl rfl) l0
                            have l1 := t47 _ _ (by decide) (Or.inl rfl) l1
                            have l3 := t47 _ _ (by decide) (Or.inl rfl) l3
                            have l4 := t47 _ _ (by decide) (Or.inl rfl) l4
                            have l5 := t47 _ _ (by decide) (Or.inl rfl) l5
                            have l6 := t47 _ _ (by decide) (Or.inl rfl) l6
                            exact hj228 _ h _ l0 l1 l2 l3 l4 l5 l6
                          ·
                            have h := wp_neg h q
                            refine rs_goto (tg := 228) wi_124_206 ⟨by decide, by decide⟩ ?_
                            exact hj228 _ h _ l0 l1 l2 l3 l4 l5 l6
                  ·
                    intro x48 h lv l0 l1 l2 l3 l4
                    obtain ⟨v50, e51, h⟩ := wp_lt h
                    refine dl_inc wi_124_234 l4 rfl e51 (fun lv l4 t49 => ?_)
                    have l0 := t49 _ _ (by decide) (Or.inl rfl) l0
                    have l1 := t49 _ _ (by decide) (Or.inl rfl) l1
                    have l2 := t49 _ _ (by decide) (Or.inl rfl) l2
                    have l3 := t49 _ _ (by decide) (Or.inl rfl) l3
                    refine rs_goto (tg := 110) wi_124_237 ⟨by decide, by decide⟩ ?_
                    exact h _ l0 l1 l2 l3 l4
              ·
                intro x52 h lv l0 l1 l2 l3
                obtain ⟨v54, e55, h⟩ := wp_lt h
                refine dl_inc wi_124_240 l3 rfl e55 (fun lv l3 t53 => ?_)
                have l0 := t53 _ _ (by decide) (Or.inl rfl) l0
                have l1 := t53 _ _ (by decide) (Or.inl rfl) l1
                have l2 := t53 _ _ (by decide) (Or.inl rfl) l2
                refine rs_goto (tg := 99) wi_124_243 ⟨by decide, by decide⟩ ?_
                exact h _ l0 l1 l2 l3
          ·
            intro x56 h lv l0 l1 l2
            refine rs_ildn wi_124_246 l1 ?_
            refine rs_ildn wi_124_247 l2 ?_
            refine wp_jn (B := fun p57 : Int32 => ∀ lv, rx_ld lv 0 = some (.ref 174) → rx_ld lv 2 = some (.int x56.1) → rs (rt_P sc fm) 124 F Lo 256 lv [.int p57, .int s5.1] (hq false x56.2 y w) Q) h (fun p57 h lv l0 l2 => ?_) (fun j256 hj256 h => ?_)
            ·
              refine rs_pure wi_124_256 rfl ?_
              obtain ⟨v59, e60, h⟩ := wp_lt h
              refine rs_topi e60 ?_
              refine dl_istn wi_124_257 rfl (fun lv l1 t58 => ?_)
              have l0 := t58 _ _ (by decide) (Or.inl rfl) l0
              have l2 := t58 _ _ (by decide) (Or.inl rfl) l2
              refine rs_goto (tg := 18) wi_124_258 ⟨by decide, by decide⟩ ?_
              exact h _ l0 l1 l2
            refine rs_ifeq (tg := 255) wi_124_248 ⟨by decide, by decide⟩ (fun q => ?_) (fun q => ?_)
            ·
              have h := wp_pos h q
              refine rs_pure wi_124_255 rfl ?_
              refine rs_topi (v := 0) (by decide) ?_
              exact hj256 _ h _ l0 l2
            ·
              have h := wp_neg h q
              refine rs_pure wi_124_251 rfl ?_
              refine rs_topi (v := 1) (by decide) ?_
              refine rs_goto (tg := 256) wi_124_252 ⟨by decide, by decide⟩ ?_
              exact hj256 _ h _ l0 l2
    ·
      intro x61 h lv l0 l1
      refine rs_aldn wi_124_261 l0 ?_
      refine rs_V wi_124_262 wc_124_637 rfl (dq_isa tf_174_0 wa_15_133) (Nat.le_trans (by decide) hF) (ml_le wm_133 (Nat.le_trans (by decide) hLo)) rfl (sp_133 hw (Nat.le_trans (by decide : 0 ≤ 4 - 1) (Nat.sub_le_sub_right hF 1)) (ml_sub wm_133 (Nat.le_trans (by decide : 0 ≤ 105 - 20) (Nat.sub_le_sub_right hLo 20))) (wp_bind h) (fun r62 h => rs_back0 ?_))
      refine rs_ildn wi_124_265 l1 ?_
      exact rs_iret wi_124_266 wr_124 rfl (hQ (x61.1, r62) h)
  ·
    have h := wp_pos h q
    refine rs_pure wi_124_12 rfl ?_
    refine rs_topi (v := (-1)) (by decide) ?_
    exact rs_iret wi_124_13 wr_124 rfl (hQ ((-1), c1) h)
set_option maxRecDepth 100000 in
theorem wc_449_703 : rx_ct (rt_P sc fm) 449 703 = some (0, 431, 2) := (by decide +kernel : rt_ct 449 703 = some (0, 431, 2))
set_option maxRecDepth 100000 in
theorem wc_449_712 : rx_ct (rt_P sc fm) 449 712 = some (0, 428, 2) := (by decide +kernel : rt_ct 449 712 = some (0, 428, 2))
set_option maxRecDepth 100000 in
theorem wf_449_252 : rx_ft (rt_P sc fm) 449 252 = some (15, 75) := (by decide +kernel : rt_ft 449 252 = some (15, 75))
set_option maxRecDepth 100000 in
theorem wf_449_258 : rx_ft (rt_P sc fm) 449 258 = some (15, 84) := (by decide +kernel : rt_ft 449 258 = some (15, 84))
set_option maxRecDepth 100000 in
theorem wf_449_678 : rx_ft (rt_P sc fm) 449 678 = some (15, 74) := (by decide +kernel : rt_ft 449 678 = some (15, 74))
theorem wi_449_0 : ri (rt_P sc fm) 449 0 (.aload_n 0) (1) := ri_of (by decide +kernel) rfl
theorem wi_449_1 : ri (rt_P sc fm) 449 1 (.iload_n 1) (2) := ri_of (by decide +kernel) rfl
theorem wi_449_10 : ri (rt_P sc fm) 449 10 (.getfield 678) (13) := ri_of (by decide +kernel) rfl
theorem wi_449_13 : ri (rt_P sc fm) 449 13 (.ifCond .le 17) (16) := ri_of (by decide +kernel) rfl
theorem wi_449_16 : ri (rt_P sc fm) 449 16 (.aload_n 0) (17) := ri_of (by decide +kernel) rfl
theorem wi_449_17 : ri (rt_P sc fm) 449 17 (.aload_n 0) (18) := ri_of (by decide +kernel) rfl
theorem wi_449_18 : ri (rt_P sc fm) 449 18 (.getfield 252) (21) := ri_of (by decide +kernel) rfl
theorem wi_449_2 : ri (rt_P sc fm) 449 2 (.bipush 100) (4) := ri_of (by decide +kernel) rfl
theorem wi_449_21 : ri (rt_P sc fm) 449 21 (.iconst 0) (22) := ri_of (by decide +kernel) rfl
theorem wi_449_22 : ri (rt_P sc fm) 449 22 (.iaload) (23) := ri_of (by decide +kernel) rfl
theorem wi_449_23 : ri (rt_P sc fm) 449 23 (.iload_n 2) (24) := ri_of (by decide +kernel) rfl
theorem wi_449_24 : ri (rt_P sc fm) 449 24 (.invokevirtual 703) (27) := ri_of (by decide +kernel) rfl
theorem wi_449_27 : ri (rt_P sc fm) 449 27 (.goto 15) (30) := ri_of (by decide +kernel) rfl
theorem wi_449_30 : ri (rt_P sc fm) 449 30 (.aload_n 0) (31) := ri_of (by decide +kernel) rfl
theorem wi_449_31 : ri (rt_P sc fm) 449 31 (.getfield 258) (34) := ri_of (by decide +kernel) rfl
theorem wi_449_34 : ri (rt_P sc fm) 449 34 (.sipush 1200) (37) := ri_of (by decide +kernel) rfl
theorem wi_449_37 : ri (rt_P sc fm) 449 37 (.iload_n 2) (38) := ri_of (by decide +kernel) rfl
theorem wi_449_38 : ri (rt_P sc fm) 449 38 (.imul) (39) := ri_of (by decide +kernel) rfl
theorem wi_449_39 : ri (rt_P sc fm) 449 39 (.iload_n 1) (40) := ri_of (by decide +kernel) rfl
theorem wi_449_4 : ri (rt_P sc fm) 449 4 (.iload_n 2) (5) := ri_of (by decide +kernel) rfl
theorem wi_449_40 : ri (rt_P sc fm) 449 40 (.iadd) (41) := ri_of (by decide +kernel) rfl
theorem wi_449_41 : ri (rt_P sc fm) 449 41 (.iaload) (42) := ri_of (by decide +kernel) rfl
theorem wi_449_42 : ri (rt_P sc fm) 449 42 (.ireturn) (43) := ri_of (by decide +kernel) rfl
theorem wi_449_5 : ri (rt_P sc fm) 449 5 (.iadd) (6) := ri_of (by decide +kernel) rfl
theorem wi_449_6 : ri (rt_P sc fm) 449 6 (.invokevirtual 712) (9) := ri_of (by decide +kernel) rfl
theorem wi_449_9 : ri (rt_P sc fm) 449 9 (.aload_n 0) (10) := ri_of (by decide +kernel) rfl
set_option maxRecDepth 100000 in
theorem wr_449 : rx_rt (rt_P sc fm) 449 = (some FieldType.int) := (by decide +kernel : rt_rt 449 = (some FieldType.int))
/-- MarkHouseModel.markNow(II)I -/
def d_449 (n : Nat) (a1 : Int32) (a2 : Int32) (c : cS) : Option (Int32 × cS) :=
  Option.bind (d_428 n a1 (100 + a2) c) (fun r1 =>
  jn (fun p2 : Int32 =>
    some (p2, r1))
  (fun j42 =>
  if (r1.1 174 74) ≤ 0 then
    if ib ((1200 * a2) + a1) 4800 then
    j42 (r1.1 235 (ix ((1200 * a2) + a1)))
    else none
  else
    if ib 0 20 then
    Option.bind (d_431 n (r1.1 233 (ix 0)) a2 r1) (fun v5 =>
    j42 v5)
    else none))
set_option maxRecDepth 100000 in
set_option maxHeartbeats 4000000 in
theorem sp_449 {F Lo n : Nat} {a1 : Int32} {a2 : Int32} {c y : cS} {w : cW} {K : Int32 × cS → Prop} {Q : ((Option Value) ⊕ String) → List va_E → Prop} (hw : rOK fm w) (hF : 4 ≤ F) (hLo : 105 ≤ Lo)  (h : wp (d_449 n a1 a2 c) K) (hQ : ∀ r, K r → Q (.inl (some (.int r.1))) (hq false r.2 y w)) : rs (rt_P sc fm) 449 F Lo 0 [(0, .ref 174), (1, .int a1), (2, .int a2)] [] (hq false c y w) Q := by
  unfold d_449 at h
  obtain ⟨lv, elv⟩ : ∃ lv : rx_L, lv = [(0, .ref 174), (1, .int a1), (2, .int a2)] := ⟨_, rfl⟩
  rw [← elv]
  have l0 : rx_ld lv 0 = some (.ref 174) := by rw [elv]; rfl
  have l1 : rx_ld lv 1 = some (.int a1) := by rw [elv]; rfl
  have l2 : rx_ld lv 2 = some (.int a2) := by rw [elv]; rfl
  refine rs_aldn wi_449_0 l0 ?_
  refine rs_ildn wi_449_1 l1 ?_
  refine rs_pure wi_449_2 rfl ?_
  refine rs_topi (v := 100) (by decide) ?_
  refine rs_ildn wi_449_4 l2 ?_
  refine rs_pure wi_449_5 rfl ?_
  refine rs_V wi_449_6 wc_449_712 rfl (dq_isa tf_174_0 wa_15_428) (Nat.le_trans (by decide) hF) (ml_le wm_428 (Nat.le_trans (by decide) hLo)) rfl (sp_428 hw (Nat.le_trans (by decide : 3 ≤ 4 - 1) (Nat.sub_le_sub_right hF 1)) (ml_sub wm_428 (Nat.le_trans (by decide : 77 ≤ 105 - 28) (Nat.sub_le_sub_right hLo 28))) (wp_bind h) (fun r1 h => rs_back0 ?_))
  refine rs_aldn wi_449_9 l0 ?_
  refine dq_gi wi_449_10 wf_449_678 tf_174_74 ?_
  refine wp_jn (B := fun p2 : Int32 => ∀ lv, rs (rt_P sc fm) 449 F Lo 42 lv [.int p2] (hq false r1 y w) Q) h (fun p2 h lv => ?_) (fun j42 hj42 h => ?_)
  ·
    exact rs_iret wi_449_42 wr_449 rfl (hQ (p2, r1) h)
  refine rs_ifle (tg := 30) wi_449_13 ⟨by decide, by decide⟩ (fun q => ?_) (fun q => ?_)
  ·
    have h := wp_pos h q
    refine rs_aldn wi_449_30 l0 ?_
    refine dq_gr wi_449_31 wf_449_258 tf_174_84 ?_
    refine rs_pure wi_449_34 rfl ?_
    refine rs_topi (v := 1200) (by decide) ?_
    refine rs_ildn wi_449_37 l2 ?_
    refine rs_pure wi_449_38 rfl ?_
    refine rs_ildn wi_449_39 l1 ?_
    refine rs_pure wi_449_40 rfl ?_
    obtain ⟨g3, h⟩ := wp_gd h
    refine dq_iald wi_449_41 t_235 g3 ?_
    exact hj42 _ h _
  ·
    have h := wp_neg h q
    refine rs_aldn wi_449_16 l0 ?_
    refine rs_aldn wi_449_17 l0 ?_
    refine dq_gr wi_449_18 wf_449_252 tf_174_75 ?_
    refine rs_pure wi_449_21 rfl ?_
    refine rs_topi (v := 0) (by decide) ?_
    obtain ⟨g4, h⟩ := wp_gd h
    refine dq_iald wi_449_22 t_233 g4 ?_
    refine rs_ildn wi_449_23 l2 ?_
    refine rs_V wi_449_24 wc_449_703 rfl (dq_isa tf_174_0 wa_15_431) (Nat.le_trans (by decide) hF) (ml_le wm_431 (Nat.le_trans (by decide) hLo)) rfl (sp_431 hw (Nat.le_trans (by decide : 2 ≤ 4 - 1) (Nat.sub_le_sub_right hF 1)) (ml_sub wm_431 (Nat.le_trans (by decide : 49 ≤ 105 - 23) (Nat.sub_le_sub_right hLo 23))) (wp_bind h) (fun v5 h => rs_back1 ?_))
    refine rs_goto (tg := 42) wi_449_27 ⟨by decide, by decide⟩ ?_
    exact hj42 _ h _
set_option maxRecDepth 100000 in
theorem wa_15_112 : rz_cn 15 (rx_yn (rt_P sc fm) 112).cls = true := (by decide +kernel : rz_cn 15 (rt_yn 112).cls = true)
set_option maxRecDepth 100000 in
theorem wa_15_449 : rz_cn 15 (rx_yn (rt_P sc fm) 449).cls = true := (by decide +kernel : rz_cn 15 (rt_yn 449).cls = true)
set_option maxRecDepth 100000 in
theorem wc_125_724 : rx_ct (rt_P sc fm) 125 724 = some (0, 119, 1) := (by decide +kernel : rt_ct 125 724 = some (0, 119, 1))
set_option maxRecDepth 100000 in
theorem wc_125_829 : rx_ct (rt_P sc fm) 125 829 = some (0, 112, 1) := (by decide +kernel : rt_ct 125 829 = some (0, 112, 1))
set_option maxRecDepth 100000 in
theorem wc_125_832 : rx_ct (rt_P sc fm) 125 832 = some (0, 449, 2) := (by decide +kernel : rt_ct 125 832 = some (0, 449, 2))
theorem wi_125_0 : ri (rt_P sc fm) 125 0 (.aload_n 0) (1) := ri_of (by decide +kernel) rfl
theorem wi_125_1 : ri (rt_P sc fm) 125 1 (.iconst 0) (2) := ri_of (by decide +kernel) rfl
theorem wi_125_10 : ri (rt_P sc fm) 125 10 (.ifCond .eq 20) (13) := ri_of (by decide +kernel) rfl
theorem wi_125_13 : ri (rt_P sc fm) 125 13 (.aload_n 0) (14) := ri_of (by decide +kernel) rfl
theorem wi_125_14 : ri (rt_P sc fm) 125 14 (.iload_n 2) (15) := ri_of (by decide +kernel) rfl
theorem wi_125_15 : ri (rt_P sc fm) 125 15 (.invokevirtual 724) (18) := ri_of (by decide +kernel) rfl
theorem wi_125_18 : ri (rt_P sc fm) 125 18 (.ifCond .eq 12) (21) := ri_of (by decide +kernel) rfl
theorem wi_125_2 : ri (rt_P sc fm) 125 2 (.putfield 356) (5) := ri_of (by decide +kernel) rfl
theorem wi_125_21 : ri (rt_P sc fm) 125 21 (.aload_n 0) (22) := ri_of (by decide +kernel) rfl
theorem wi_125_22 : ri (rt_P sc fm) 125 22 (.iload_n 1) (23) := ri_of (by decide +kernel) rfl
theorem wi_125_23 : ri (rt_P sc fm) 125 23 (.iload_n 2) (24) := ri_of (by decide +kernel) rfl
theorem wi_125_24 : ri (rt_P sc fm) 125 24 (.invokevirtual 832) (27) := ri_of (by decide +kernel) rfl
theorem wi_125_27 : ri (rt_P sc fm) 125 27 (.goto 4) (30) := ri_of (by decide +kernel) rfl
theorem wi_125_30 : ri (rt_P sc fm) 125 30 (.iconst (-1)) (31) := ri_of (by decide +kernel) rfl
theorem wi_125_31 : ri (rt_P sc fm) 125 31 (.ireturn) (32) := ri_of (by decide +kernel) rfl
theorem wi_125_5 : ri (rt_P sc fm) 125 5 (.aload_n 0) (6) := ri_of (by decide +kernel) rfl
theorem wi_125_6 : ri (rt_P sc fm) 125 6 (.iload_n 1) (7) := ri_of (by decide +kernel) rfl
theorem wi_125_7 : ri (rt_P sc fm) 125 7 (.invokevirtual 829) (10) := ri_of (by decide +kernel) rfl
set_option maxRecDepth 100000 in
theorem wm_112 : rx_ml (rt_P sc fm) 112 = 2 := (by decide +kernel : rt_ml 112 = 2)
set_option maxRecDepth 100000 in
theorem wm_449 : rx_ml (rt_P sc fm) 449 = 3 := (by decide +kernel : rt_ml 449 = 3)
set_option maxRecDepth 100000 in
theorem wp_125_356 : rx_pt (rt_P sc fm) 125 356 = some (15, 0, .int) := (by decide +kernel : rt_pt 125 356 = some (15, 0, .int))
set_option maxRecDepth 100000 in
theorem wr_125 : rx_rt (rt_P sc fm) 125 = (some FieldType.int) := (by decide +kernel : rt_rt 125 = (some FieldType.int))
/-- MarkHouseModel.markOf(II)I -/
def d_125 (n : Nat) (a1 : Int32) (a2 : Int32) (c : cS) : Option (Int32 × cS) :=
  lt (pI c 174 0 0) (fun c1 =>
  Option.bind (d_112 n a1 c1) (fun v3 =>
  jn (fun p4 : Int32 × cS =>
    some (p4.1, p4.2))
  (fun j31 =>
  jn (fun p5 : Unit =>
    j31 ((-1), c1))
  (fun j30 =>
  if v3 = 0 then
    j30 ()
  else
    Option.bind (d_119 n a2 c1) (fun v6 =>
    if v6 = 0 then
      j30 ()
    else
      Option.bind (d_449 n a1 a2 c1) (fun r7 =>
      j31 (r7.1, r7.2)))))))
set_option maxRecDepth 100000 in
set_option maxHeartbeats 4000000 in
theorem sp_125 {F Lo n : Nat} {a1 : Int32} {a2 : Int32} {c y : cS} {w : cW} {K : Int32 × cS → Prop} {Q : ((Option Value) ⊕ String) → List va_E → Prop} (hw : rOK fm w) (hF : 5 ≤ F) (hLo : 127 ≤ Lo)  (h : wp (d_125 n a1 a2 c) K) (hQ : ∀ r, K r → Q (.inl (some (.int r.1))) (hq false r.2 y w)) : rs (rt_P sc fm) 125 F Lo 0 [(0, .ref 174), (1, .int a1), (2, .int a2)] [] (hq false c y w) Q := by
  unfold d_125 at h
  obtain ⟨lv, elv⟩ : ∃ lv : rx_L, lv = [(0, .ref 174), (1, .int a1), (2, .int a2)] := ⟨_, rfl⟩
  rw [← elv]
  have l0 : rx_ld lv 0 = some (.ref 174) := by rw [elv]; rfl
  have l1 : rx_ld lv 1 = some (.int a1) := by rw [elv]; rfl
  have l2 : rx_ld lv 2 = some (.int a2) := by rw [elv]; rfl
  refine rs_aldn wi_125_0 l0 ?_
  refine rs_pure wi_125_1 rfl ?_
  refine rs_topi (v := 0) (by decide) ?_
  obtain ⟨c1, e2, h⟩ := wp_lt h
  refine dq_pi wi_125_2 wp_125_356 tf_174_0 rfl rfl e2 ?_
  refine rs_aldn wi_125_5 l0 ?_
  refine rs_ildn wi_125_6 l1 ?_
  refine rs_V wi_125_7 wc_125_829 rfl (dq_isa tf_174_0 wa_15_112) (Nat.le_trans (by decide) hF) (ml_le wm_112 (Nat.le_trans (by decide) hLo)) rfl (sp_112 hw (Nat.le_trans (by decide : 1 ≤ 5 - 1) (Nat.sub_le_sub_right hF 1)) (ml_sub wm_112 (Nat.le_trans (by decide : 24 ≤ 127 - 21) (Nat.sub_le_sub_right hLo 21))) (wp_bind h) (fun v3 h => rs_back1 ?_))
  refine wp_jn (B := fun p4 : Int32 × cS => ∀ lv, rs (rt_P sc fm) 125 F Lo 31 lv [.int p4.1] (hq false p4.2 y w) Q) h (fun p4 h lv => ?_) (fun j31 hj31 h => ?_)
  ·
    exact rs_iret wi_125_31 wr_125 rfl (hQ (p4.1, p4.2) h)
  refine wp_jn (B := fun p5 : Unit => ∀ lv, rs (rt_P sc fm) 125 F Lo 30 lv [] (hq false c1 y w) Q) h (fun p5 h lv => ?_) (fun j30 hj30 h => ?_)
  ·
    refine rs_pure wi_125_30 rfl ?_
    refine rs_topi (v := (-1)) (by decide) ?_
    exact hj31 _ h _
  refine rs_ifeq (tg := 30) wi_125_10 ⟨by decide, by decide⟩ (fun q => ?_) (fun q => ?_)
  ·
    have h := wp_pos h q
    exact hj30 _ h _
  ·
    have h := wp_neg h q
    refine rs_aldn wi_125_13 l0 ?_
    refine rs_ildn wi_125_14 l2 ?_
    refine rs_V wi_125_15 wc_125_724 rfl (dq_isa tf_174_0 wa_15_119) (Nat.le_trans (by decide) hF) (ml_le wm_119 (Nat.le_trans (by decide) hLo)) rfl (sp_119 hw (Nat.le_trans (by decide : 0 ≤ 5 - 1) (Nat.sub_le_sub_right hF 1)) (ml_sub wm_119 (Nat.le_trans (by decide : 0 ≤ 127 - 21) (Nat.sub_le_sub_right hLo 21))) (wp_bind h) (fun v6 h => rs_back1 ?_))
    refine rs_ifeq (tg := 30) wi_125_18 ⟨by decide, by decide⟩ (fun q => ?_) (fun q => ?_)
    ·
      have h := wp_pos h q
      exact hj30 _ h _
    ·
      have h := wp_neg h q
      refine rs_aldn wi_125_21 l0 ?_
      refine rs_ildn wi_125_22 l1 ?_
      refine rs_ildn wi_125_23 l2 ?_
      refine rs_V wi_125_24 wc_125_832 rfl (dq_isa tf_174_0 wa_15_449) (Nat.le_trans (by decide) hF) (ml_le wm_449 (Nat.le_trans (by decide) hLo)) rfl (sp_449 hw (Nat.le_trans (by decide : 4 ≤ 5 - 1) (Nat.sub_le_sub_right hF 1)) (ml_sub wm_449 (Nat.le_trans (by decide : 105 ≤ 127 - 22) (Nat.sub_le_sub_right hLo 22))) (wp_bind h) (fun r7 h => rs_back1 ?_))
      refine rs_goto (tg := 31) wi_125_27 ⟨by decide, by decide⟩ ?_
      exact hj31 _ h _
theorem t_236 : ta false 236 0 1200 := ⟨rfl, by decide, by decide⟩
theorem t_237 : ta false 237 3 1200 := ⟨rfl, by decide, by decide⟩
theorem tf_174_85 : fo false 174 15 85 (.ref 236) := ⟨_, rfl, rfl, by decide, by decide⟩
theorem tf_174_86 : fo false 174 15 86 (.ref 237) := ⟨_, rfl, rfl, by decide, by decide⟩
set_option maxRecDepth 100000 in
theorem wc_450_829 : rx_ct (rt_P sc fm) 450 829 = some (0, 112, 1) := (by decide +kernel : rt_ct 450 829 = some (0, 112, 1))
set_option maxRecDepth 100000 in
theorem wc_450_832 : rx_ct (rt_P sc fm) 450 832 = some (0, 449, 2) := (by decide +kernel : rt_ct 450 832 = some (0, 449, 2))
set_option maxRecDepth 100000 in
theorem wf_450_261 : rx_ft (rt_P sc fm) 450 261 = some (15, 85) := (by decide +kernel : rt_ft 450 261 = some (15, 85))
set_option maxRecDepth 100000 in
theorem wf_450_264 : rx_ft (rt_P sc fm) 450 264 = some (15, 86) := (by decide +kernel : rt_ft 450 264 = some (15, 86))
set_option maxRecDepth 100000 in
theorem wf_450_678 : rx_ft (rt_P sc fm) 450 678 = some (15, 74) := (by decide +kernel : rt_ft 450 678 = some (15, 74))
theorem wi_450_0 : ri (rt_P sc fm) 450 0 (.iconst 0) (1) := ri_of (by decide +kernel) rfl
theorem wi_450_1 : ri (rt_P sc fm) 450 1 (.istore_n 2) (2) := ri_of (by decide +kernel) rfl
theorem wi_450_10 : ri (rt_P sc fm) 450 10 (.iload_n 2) (11) := ri_of (by decide +kernel) rfl
theorem wi_450_11 : ri (rt_P sc fm) 450 11 (.invokevirtual 829) (14) := ri_of (by decide +kernel) rfl
theorem wi_450_14 : ri (rt_P sc fm) 450 14 (.ifCond .ne 6) (17) := ri_of (by decide +kernel) rfl
theorem wi_450_17 : ri (rt_P sc fm) 450 17 (.goto 33) (20) := ri_of (by decide +kernel) rfl
theorem wi_450_2 : ri (rt_P sc fm) 450 2 (.iload_n 2) (3) := ri_of (by decide +kernel) rfl
theorem wi_450_20 : ri (rt_P sc fm) 450 20 (.aload_n 0) (21) := ri_of (by decide +kernel) rfl
theorem wi_450_21 : ri (rt_P sc fm) 450 21 (.getfield 261) (24) := ri_of (by decide +kernel) rfl
theorem wi_450_24 : ri (rt_P sc fm) 450 24 (.iload_n 2) (25) := ri_of (by decide +kernel) rfl
theorem wi_450_25 : ri (rt_P sc fm) 450 25 (.aload_n 0) (26) := ri_of (by decide +kernel) rfl
theorem wi_450_26 : ri (rt_P sc fm) 450 26 (.iload_n 2) (27) := ri_of (by decide +kernel) rfl
theorem wi_450_27 : ri (rt_P sc fm) 450 27 (.iload_n 1) (28) := ri_of (by decide +kernel) rfl
theorem wi_450_28 : ri (rt_P sc fm) 450 28 (.invokevirtual 832) (31) := ri_of (by decide +kernel) rfl
theorem wi_450_3 : ri (rt_P sc fm) 450 3 (.sipush 1200) (6) := ri_of (by decide +kernel) rfl
theorem wi_450_31 : ri (rt_P sc fm) 450 31 (.iastore) (32) := ri_of (by decide +kernel) rfl
theorem wi_450_32 : ri (rt_P sc fm) 450 32 (.aload_n 0) (33) := ri_of (by decide +kernel) rfl
theorem wi_450_33 : ri (rt_P sc fm) 450 33 (.getfield 264) (36) := ri_of (by decide +kernel) rfl
theorem wi_450_36 : ri (rt_P sc fm) 450 36 (.iload_n 2) (37) := ri_of (by decide +kernel) rfl
theorem wi_450_37 : ri (rt_P sc fm) 450 37 (.aload_n 0) (38) := ri_of (by decide +kernel) rfl
theorem wi_450_38 : ri (rt_P sc fm) 450 38 (.getfield 678) (41) := ri_of (by decide +kernel) rfl
theorem wi_450_41 : ri (rt_P sc fm) 450 41 (.ifCond .le 7) (44) := ri_of (by decide +kernel) rfl
theorem wi_450_44 : ri (rt_P sc fm) 450 44 (.iconst 1) (45) := ri_of (by decide +kernel) rfl
theorem wi_450_45 : ri (rt_P sc fm) 450 45 (.goto 4) (48) := ri_of (by decide +kernel) rfl
theorem wi_450_48 : ri (rt_P sc fm) 450 48 (.iconst 0) (49) := ri_of (by decide +kernel) rfl
theorem wi_450_49 : ri (rt_P sc fm) 450 49 (.bastore) (50) := ri_of (by decide +kernel) rfl
theorem wi_450_50 : ri (rt_P sc fm) 450 50 (.iinc 2 1) (53) := ri_of (by decide +kernel) rfl
theorem wi_450_53 : ri (rt_P sc fm) 450 53 (.goto (-51)) (56) := ri_of (by decide +kernel) rfl
theorem wi_450_56 : ri (rt_P sc fm) 450 56 (.return_) (57) := ri_of (by decide +kernel) rfl
theorem wi_450_6 : ri (rt_P sc fm) 450 6 (.if_icmp .ge 50) (9) := ri_of (by decide +kernel) rfl
theorem wi_450_9 : ri (rt_P sc fm) 450 9 (.aload_n 0) (10) := ri_of (by decide +kernel) rfl
set_option maxRecDepth 100000 in
theorem wr_450 : rx_rt (rt_P sc fm) 450 = none := (by decide +kernel : rt_rt 450 = none)
/-- MarkHouseModel.findMarks(I)V -/
def d_450 (n : Nat) (a1 : Int32) (c : cS) : Option (cS) :=
  Option.bind (whl (R := (cS)) (fun s2 : Int32 × cS =>
    if 1200 ≤ s2.1 then
      some (.inr s2.2)
    else
      Option.bind (d_112 n s2.1 s2.2) (fun v3 =>
      jn (fun p4 : cS =>
        lt (s2.1 + 1 : Int32) (fun v6 =>
        some (.inl (v6, p4))))
      (fun j50 =>
      if v3 = 0 then
        j50 s2.2
      else
        Option.bind (d_449 n s2.1 a1 s2.2) (fun r8 =>
        if ib s2.1 1200 then
        lt (pI r8.2 236 (ix s2.1) r8.1) (fun c10 =>
        jn (fun p12 : Int32 =>
          if ib s2.1 1200 then
          lt (pI c10 237 (ix s2.1) (vp_nar .boolean p12)) (fun c14 =>
          j50 c14)
          else none)
        (fun j49 =>
        if (c10.1 174 74) ≤ 0 then
          j49 0
        else
          j49 1))
        else none)))) n (0, c))
  (fun x16 : cS =>
    some x16)
set_option maxRecDepth 100000 in
set_option maxHeartbeats 4000000 in
theorem sp_450 {F Lo n : Nat} {a1 : Int32} {c y : cS} {w : cW} {K : cS → Prop} {Q : ((Option Value) ⊕ String) → List va_E → Prop} (hw : rOK fm w) (hF : 5 ≤ F) (hLo : 127 ≤ Lo)  (h : wp (d_450 n a1 c) K) (hQ : ∀ r, K r → Q (.inl none) (hq false r y w)) : rs (rt_P sc fm) 450 F Lo 0 [(0, .ref 174), (1, .int a1)] [] (hq false c y w) Q := by
  unfold d_450 at h
  obtain ⟨lv, elv⟩ : ∃ lv : rx_L, lv = [(0, .ref 174), (1, .int a1)] := ⟨_, rfl⟩
  rw [← elv]
  have l0 : rx_ld lv 0 = some (.ref 174) := by rw [elv]; rfl
  have l1 : rx_ld lv 1 = some (.int a1) := by rw [elv]; rfl
  refine rs_pure wi_450_0 rfl ?_
  refine rs_topi (v := 0) (by decide) ?_
  refine dl_istn wi_450_1 rfl (fun lv l2 t1 => ?_)
  have l0 := t1 _ _ (by decide) (Or.inl rfl) l0
  have l1 := t1 _ _ (by decide) (Or.inl rfl) l1
  refine whl_ex (A := fun s2 : Int32 × cS => ∀ lv, rx_ld lv 0 = some (.ref 174) → rx_ld lv 1 = some (.int a1) → rx_ld lv 2 = some (.int s2.1) → rs (rt_P sc fm) 450 F Lo 2 lv [] (hq false s2.2 y w) Q) (B := (fun x16 : cS => ∀ lv, rs (rt_P sc fm) 450 F Lo 56 lv [] (hq false x16 y w) Q)) ?_ ?_ _ _ (wp_bind h) _ l0 l1 l2
  · intro s2 h lv l0 l1 l2
    refine rs_ildn wi_450_2 l2 ?_
    refine rs_pure wi_450_3 rfl ?_
    refine rs_topi (v := 1200) (by decide) ?_
    refine rs_icge (tg := 56) wi_450_6 ⟨by decide, by decide⟩ (fun q => ?_) (fun q => ?_)
    ·
      have h := wp_pos h q
      exact h _
    ·
      have h := wp_neg h q
      refine rs_aldn wi_450_9 l0 ?_
      refine rs_ildn wi_450_10 l2 ?_
      refine rs_V wi_450_11 wc_450_829 rfl (dq_isa tf_174_0 wa_15_112) (Nat.le_trans (by decide) hF) (ml_le wm_112 (Nat.le_trans (by decide) hLo)) rfl (sp_112 hw (Nat.le_trans (by decide : 1 ≤ 5 - 1) (Nat.sub_le_sub_right hF 1)) (ml_sub wm_112 (Nat.le_trans (by decide : 24 ≤ 127 - 21) (Nat.sub_le_sub_right hLo 21))) (wp_bind h) (fun v3 h => rs_back1 ?_))
      refine wp_jn (B := fun p4 : cS => ∀ lv, rx_ld lv 0 = some (.ref 174) → rx_ld lv 1 = some (.int a1) → rx_ld lv 2 = some (.int s2.1) → rs (rt_P sc fm) 450 F Lo 50 lv [] (hq false p4 y w) Q) h (fun p4 h lv l0 l1 l2 => ?_) (fun j50 hj50 h => ?_)
      ·
        obtain ⟨v6, e7, h⟩ := wp_lt h
        refine dl_inc wi_450_50 l2 rfl e7 (fun lv l2 t5 => ?_)
        have l0 := t5 _ _ (by decide) (Or.inl rfl) l0
        have l1 := t5 _ _ (by decide) (Or.inl rfl) l1
        refine rs_goto (tg := 2) wi_450_53 ⟨by decide, by decide⟩ ?_
        exact h _ l0 l1 l2
      refine rs_ifne (tg := 20) wi_450_14 ⟨by decide, by decide⟩ (fun q => ?_) (fun q => ?_)
      ·
        have h := wp_neg h q
        refine rs_aldn wi_450_20 l0 ?_
        refine dq_gr wi_450_21 wf_450_261 tf_174_85 ?_
        refine rs_ildn wi_450_24 l2 ?_
        refine rs_aldn wi_450_25 l0 ?_
        refine rs_ildn wi_450_26 l2 ?_
        refine rs_ildn wi_450_27 l1 ?_
        refine rs_V wi_450_28 wc_450_832 rfl (dq_isa tf_174_0 wa_15_449) (Nat.le_trans (by decide) hF) (ml_le wm_449 (Nat.le_trans (by decide) hLo)) rfl (sp_449 hw (Nat.le_trans (by decide : 4 ≤ 5 - 1) (Nat.sub_le_sub_right hF 1)) (ml_sub wm_449 (Nat.le_trans (by decide : 105 ≤ 127 - 22) (Nat.sub_le_sub_right hLo 22))) (wp_bind h) (fun r8 h => rs_back1 ?_))
        obtain ⟨g9, h⟩ := wp_gd h
        obtain ⟨c10, e11, h⟩ := wp_lt h
        refine dq_iast wi_450_31 t_236 g9 e11 ?_
        refine rs_aldn wi_450_32 l0 ?_
        refine dq_gr wi_450_33 wf_450_264 tf_174_86 ?_
        refine rs_ildn wi_450_36 l2 ?_
        refine rs_aldn wi_450_37 l0 ?_
        refine dq_gi wi_450_38 wf_450_678 tf_174_74 ?_
        refine wp_jn (B := fun p12 : Int32 => ∀ lv, rx_ld lv 0 = some (.ref 174) → rx_ld lv 1 = some (.int a1) → rx_ld lv 2 = some (.int s2.1) → rs (rt_P sc fm) 450 F Lo 49 lv [.int p12, .int s2.1, .ref 237] (hq false c10 y w) Q) h (fun p12 h lv l0 l1 l2 => ?_) (fun j49 hj49 h => ?_)
        ·
          obtain ⟨g13, h⟩ := wp_gd h
          obtain ⟨c14, e15, h⟩ := wp_lt h
          refine dq_zast wi_450_49 t_237 g13 e15 ?_
          exact hj50 _ h _ l0 l1 l2
        refine rs_ifle (tg := 48) wi_450_41 ⟨by decide, by decide⟩ (fun q => ?_) (fun q => ?_)
        ·
          have h := wp_pos h q
          refine rs_pure wi_450_48 rfl ?_
          refine rs_topi (v := 0) (by decide) ?_
          exact hj49 _ h _ l0 l1 l2
        ·
          have h := wp_neg h q
          refine rs_pure wi_450_44 rfl ?_
          refine rs_topi (v := 1) (by decide) ?_
          refine rs_goto (tg := 49) wi_450_45 ⟨by decide, by decide⟩ ?_
          exact hj49 _ h _ l0 l1 l2
      ·
        have h := wp_pos h q
        refine rs_goto (tg := 50) wi_450_17 ⟨by decide, by decide⟩ ?_
        exact hj50 _ h _ l0 l1 l2
  ·
    intro x16 h lv
    exact rs_vret wi_450_56 wr_450 (hQ x16 h)
theorem t_240 : ta false 240 0 16 := ⟨rfl, by decide, by decide⟩
theorem tf_174_89 : fo false 174 15 89 (.ref 240) := ⟨_, rfl, rfl, by decide, by decide⟩
set_option maxRecDepth 100000 in
theorem wc_452_661 : rx_ct (rt_P sc fm) 452 661 = some (1, 422, 1) := (by decide +kernel : rt_ct 452 661 = some (1, 422, 1))
set_option maxRecDepth 100000 in
theorem wf_452_116 : rx_ft (rt_P sc fm) 452 116 = some (15, 23) := (by decide +kernel : rt_ft 452 116 = some (15, 23))
set_option maxRecDepth 100000 in
theorem wf_452_173 : rx_ft (rt_P sc fm) 452 173 = some (15, 45) := (by decide +kernel : rt_ft 452 173 = some (15, 45))
set_option maxRecDepth 100000 in
theorem wf_452_261 : rx_ft (rt_P sc fm) 452 261 = some (15, 85) := (by decide +kernel : rt_ft 452 261 = some (15, 85))
set_option maxRecDepth 100000 in
theorem wf_452_274 : rx_ft (rt_P sc fm) 452 274 = some (15, 89) := (by decide +kernel : rt_ft 452 274 = some (15, 89))
theorem wi_452_0 : ri (rt_P sc fm) 452 0 (.iconst 0) (1) := ri_of (by decide +kernel) rfl
theorem wi_452_1 : ri (rt_P sc fm) 452 1 (.istore_n 3) (2) := ri_of (by decide +kernel) rfl
theorem wi_452_12 : ri (rt_P sc fm) 452 12 (.iload_n 3) (13) := ri_of (by decide +kernel) rfl
theorem wi_452_13 : ri (rt_P sc fm) 452 13 (.iload_n 3) (14) := ri_of (by decide +kernel) rfl
theorem wi_452_14 : ri (rt_P sc fm) 452 14 (.aload_n 0) (15) := ri_of (by decide +kernel) rfl
theorem wi_452_15 : ri (rt_P sc fm) 452 15 (.getfield 173) (18) := ri_of (by decide +kernel) rfl
theorem wi_452_18 : ri (rt_P sc fm) 452 18 (.iload_n 1) (19) := ri_of (by decide +kernel) rfl
theorem wi_452_19 : ri (rt_P sc fm) 452 19 (.iaload) (20) := ri_of (by decide +kernel) rfl
theorem wi_452_2 : ri (rt_P sc fm) 452 2 (.iload_n 3) (3) := ri_of (by decide +kernel) rfl
theorem wi_452_20 : ri (rt_P sc fm) 452 20 (.if_icmp .ge 19) (23) := ri_of (by decide +kernel) rfl
theorem wi_452_23 : ri (rt_P sc fm) 452 23 (.aload_n 0) (24) := ri_of (by decide +kernel) rfl
theorem wi_452_24 : ri (rt_P sc fm) 452 24 (.getfield 261) (27) := ri_of (by decide +kernel) rfl
theorem wi_452_27 : ri (rt_P sc fm) 452 27 (.iload_n 1) (28) := ri_of (by decide +kernel) rfl
theorem wi_452_28 : ri (rt_P sc fm) 452 28 (.invokestatic 661) (31) := ri_of (by decide +kernel) rfl
theorem wi_452_3 : ri (rt_P sc fm) 452 3 (.bipush 16) (5) := ri_of (by decide +kernel) rfl
theorem wi_452_31 : ri (rt_P sc fm) 452 31 (.iconst 1) (32) := ri_of (by decide +kernel) rfl
theorem wi_452_32 : ri (rt_P sc fm) 452 32 (.iadd) (33) := ri_of (by decide +kernel) rfl
theorem wi_452_33 : ri (rt_P sc fm) 452 33 (.iload_n 3) (34) := ri_of (by decide +kernel) rfl
theorem wi_452_34 : ri (rt_P sc fm) 452 34 (.iadd) (35) := ri_of (by decide +kernel) rfl
theorem wi_452_35 : ri (rt_P sc fm) 452 35 (.iaload) (36) := ri_of (by decide +kernel) rfl
theorem wi_452_36 : ri (rt_P sc fm) 452 36 (.goto 9) (39) := ri_of (by decide +kernel) rfl
theorem wi_452_39 : ri (rt_P sc fm) 452 39 (.aload_n 0) (40) := ri_of (by decide +kernel) rfl
theorem wi_452_40 : ri (rt_P sc fm) 452 40 (.getfield 116) (43) := ri_of (by decide +kernel) rfl
theorem wi_452_43 : ri (rt_P sc fm) 452 43 (.iload_n 2) (44) := ri_of (by decide +kernel) rfl
theorem wi_452_44 : ri (rt_P sc fm) 452 44 (.iaload) (45) := ri_of (by decide +kernel) rfl
theorem wi_452_45 : ri (rt_P sc fm) 452 45 (.iastore) (46) := ri_of (by decide +kernel) rfl
theorem wi_452_46 : ri (rt_P sc fm) 452 46 (.iinc 3 1) (49) := ri_of (by decide +kernel) rfl
theorem wi_452_49 : ri (rt_P sc fm) 452 49 (.goto (-47)) (52) := ri_of (by decide +kernel) rfl
theorem wi_452_5 : ri (rt_P sc fm) 452 5 (.if_icmp .ge 47) (8) := ri_of (by decide +kernel) rfl
theorem wi_452_52 : ri (rt_P sc fm) 452 52 (.return_) (53) := ri_of (by decide +kernel) rfl
theorem wi_452_8 : ri (rt_P sc fm) 452 8 (.aload_n 0) (9) := ri_of (by decide +kernel) rfl
theorem wi_452_9 : ri (rt_P sc fm) 452 9 (.getfield 274) (12) := ri_of (by decide +kernel) rfl
set_option maxRecDepth 100000 in
theorem wr_452 : rx_rt (rt_P sc fm) 452 = none := (by decide +kernel : rt_rt 452 = none)
/-- MarkHouseModel.first(II)V -/
def d_452 (n : Nat) (a1 : Int32) (a2 : Int32) (c : cS) : Option (cS) :=
  Option.bind (whl (R := (cS)) (fun s2 : Int32 × cS =>
    if 16 ≤ s2.1 then
      some (.inr s2.2)
    else
      if ib a1 96 then
      jn (fun p4 : Int32 =>
        if ib s2.1 16 then
        lt (pI s2.2 240 (ix s2.1) p4) (fun c6 =>
        lt (s2.1 + 1 : Int32) (fun v9 =>
        some (.inl (v9, c6))))
        else none)
      (fun j45 =>
      if (s2.2.1 207 (ix a1)) ≤ s2.1 then
        if ib a2 4 then
        j45 (s2.2.1 188 (ix a2))
        else none
      else
        Option.bind (d_422 n a1) (fun v12 =>
        if ib ((v12 + 1) + s2.1) 1200 then
        j45 (s2.2.1 236 (ix ((v12 + 1) + s2.1)))
        else none))
      else none) n (0, c))
  (fun x14 : cS =>
    some x14)
set_option maxRecDepth 100000 in
set_option maxHeartbeats 4000000 in
theorem sp_452 {F Lo n : Nat} {a1 : Int32} {a2 : Int32} {c y : cS} {w : cW} {K : cS → Prop} {Q : ((Option Value) ⊕ String) → List va_E → Prop} (hw : rOK fm w) (hF : 1 ≤ F) (hLo : 20 ≤ Lo)  (h : wp (d_452 n a1 a2 c) K) (hQ : ∀ r, K r → Q (.inl none) (hq false r y w)) : rs (rt_P sc fm) 452 F Lo 0 [(0, .ref 174), (1, .int a1), (2, .int a2)] [] (hq false c y w) Q := by
  unfold d_452 at h
  obtain ⟨lv, elv⟩ : ∃ lv : rx_L, lv = [(0, .ref 174), (1, .int a1), (2, .int a2)] := ⟨_, rfl⟩
  rw [← elv]
  have l0 : rx_ld lv 0 = some (.ref 174) := by rw [elv]; rfl
  have l1 : rx_ld lv 1 = some (.int a1) := by rw [elv]; rfl
  have l2 : rx_ld lv 2 = some (.int a2) := by rw [elv]; rfl
  refine rs_pure wi_452_0 rfl ?_
  refine rs_topi (v := 0) (by decide) ?_
  refine dl_istn wi_452_1 rfl (fun lv l3 t1 => ?_)
  have l0 := t1 _ _ (by decide) (Or.inl rfl) l0
  have l1 := t1 _ _ (by decide) (Or.inl rfl) l1
  have l2 := t1 _ _ (by decide) (Or.inl rfl) l2
  refine whl_ex (A := fun s2 : Int32 × cS => ∀ lv, rx_ld lv 0 = some (.ref 174) → rx_ld lv 1 = some (.int a1) → rx_ld lv 2 = some (.int a2) → rx_ld lv 3 = some (.int s2.1) → rs (rt_P sc fm) 452 F Lo 2 lv [] (hq false s2.2 y w) Q) (B := (fun x14 : cS => ∀ lv, rs (rt_P sc fm) 452 F Lo 52 lv [] (hq false x14 y w) Q)) ?_ ?_ _ _ (wp_bind h) _ l0 l1 l2 l3
  · intro s2 h lv l0 l1 l2 l3
    refine rs_ildn wi_452_2 l3 ?_
    refine rs_pure wi_452_3 rfl ?_
    refine rs_topi (v := 16) (by decide) ?_
    refine rs_icge (tg := 52) wi_452_5 ⟨by decide, by decide⟩ (fun q => ?_) (fun q => ?_)
    ·
      have h := wp_pos h q
      exact h _
    ·
      have h := wp_neg h q
      refine rs_aldn wi_452_8 l0 ?_
      refine dq_gr wi_452_9 wf_452_274 tf_174_89 ?_
      refine rs_ildn wi_452_12 l3 ?_
      refine rs_ildn wi_452_13 l3 ?_
      refine rs_aldn wi_452_14 l0 ?_
      refine dq_gr wi_452_15 wf_452_173 tf_174_45 ?_
      refine rs_ildn wi_452_18 l1 ?_
      obtain ⟨g3, h⟩ := wp_gd h
      refine dq_iald wi_452_19 t_207 g3 ?_
      refine wp_jn (B := fun p4 : Int32 => ∀ lv, rx_ld lv 0 = some (.ref 174) → rx_ld lv 1 = some (.int a1) → rx_ld lv 2 = some (.int a2) → rx_ld lv 3 = some (.int s2.1) → rs (rt_P sc fm) 452 F Lo 45 lv [.int p4, .int s2.1, .ref 240] (hq false s2.2 y w) Q) h (fun p4 h lv l0 l1 l2 l3 => ?_) (fun j45 hj45 h => ?_)
      ·
        obtain ⟨g5, h⟩ := wp_gd h
        obtain ⟨c6, e7, h⟩ := wp_lt h
        refine dq_iast wi_452_45 t_240 g5 e7 ?_
        obtain ⟨v9, e10, h⟩ := wp_lt h
        refine dl_inc wi_452_46 l3 rfl e10 (fun lv l3 t8 => ?_)
        have l0 := t8 _ _ (by decide) (Or.inl rfl) l0
        have l1 := t8 _ _ (by decide) (Or.inl rfl) l1
        have l2 := t8 _ _ (by decide) (Or.inl rfl) l2
        refine rs_goto (tg := 2) wi_452_49 ⟨by decide, by decide⟩ ?_
        exact h _ l0 l1 l2 l3
      refine rs_icge (tg := 39) wi_452_20 ⟨by decide, by decide⟩ (fun q => ?_) (fun q => ?_)
      ·
        have h := wp_pos h q
        refine rs_aldn wi_452_39 l0 ?_
        refine dq_gr wi_452_40 wf_452_116 tf_174_23 ?_
        refine rs_ildn wi_452_43 l2 ?_
        obtain ⟨g11, h⟩ := wp_gd h
        refine dq_iald wi_452_44 t_188 g11 ?_
        exact hj45 _ h _ l0 l1 l2 l3
      ·
        have h := wp_neg h q
        refine rs_aldn wi_452_23 l0 ?_
        refine dq_gr wi_452_24 wf_452_261 tf_174_85 ?_
        refine rs_ildn wi_452_27 l1 ?_
        refine rs_S wi_452_28 wc_452_661 (Or.inl rfl) rfl (Nat.le_trans (by decide) hF) (ml_le wm_422 (Nat.le_trans (by decide) hLo)) rfl (sp_422 (Nat.le_trans (by decide : 0 ≤ 1 - 1) (Nat.sub_le_sub_right hF 1)) (ml_sub wm_422 (Nat.le_trans (by decide : 0 ≤ 20 - 20) (Nat.sub_le_sub_right hLo 20))) (wp_bind h) (fun v12 h => rs_back1 ?_))
        refine rs_pure wi_452_31 rfl ?_
        refine rs_topi (v := 1) (by decide) ?_
        refine rs_pure wi_452_32 rfl ?_
        refine rs_ildn wi_452_33 l3 ?_
        refine rs_pure wi_452_34 rfl ?_
        obtain ⟨g13, h⟩ := wp_gd h
        refine dq_iald wi_452_35 t_236 g13 ?_
        refine rs_goto (tg := 45) wi_452_36 ⟨by decide, by decide⟩ ?_
        exact hj45 _ h _ l0 l1 l2 l3
  ·
    intro x14 h lv
    exact rs_vret wi_452_52 wr_452 (hQ x14 h)
theorem t_238 : ta false 238 0 61440 := ⟨rfl, by decide, by decide⟩
theorem t_239 : ta false 239 3 3840 := ⟨rfl, by decide, by decide⟩
theorem tf_174_87 : fo false 174 15 87 (.ref 238) := ⟨_, rfl, rfl, by decide, by decide⟩
theorem tf_174_88 : fo false 174 15 88 (.ref 239) := ⟨_, rfl, rfl, by decide, by decide⟩
theorem tf_174_90 : fo false 174 15 90 (.int 0) := ⟨_, rfl, rfl, by decide, by decide⟩
set_option maxRecDepth 100000 in
theorem wc_455_727 : rx_ct (rt_P sc fm) 455 727 = some (0, 390, 3) := (by decide +kernel : rt_ct 455 727 = some (0, 390, 3))
set_option maxRecDepth 100000 in
theorem wf_455_243 : rx_ft (rt_P sc fm) 455 243 = some (15, 70) := (by decide +kernel : rt_ft 455 243 = some (15, 70))
set_option maxRecDepth 100000 in
theorem wf_455_268 : rx_ft (rt_P sc fm) 455 268 = some (15, 87) := (by decide +kernel : rt_ft 455 268 = some (15, 87))
set_option maxRecDepth 100000 in
theorem wf_455_271 : rx_ft (rt_P sc fm) 455 271 = some (15, 88) := (by decide +kernel : rt_ft 455 271 = some (15, 88))
set_option maxRecDepth 100000 in
theorem wf_455_274 : rx_ft (rt_P sc fm) 455 274 = some (15, 89) := (by decide +kernel : rt_ft 455 274 = some (15, 89))
theorem wi_455_0 : ri (rt_P sc fm) 455 0 (.aload_n 0) (1) := ri_of (by decide +kernel) rfl
theorem wi_455_1 : ri (rt_P sc fm) 455 1 (.getfield 271) (4) := ri_of (by decide +kernel) rfl
theorem wi_455_10 : ri (rt_P sc fm) 455 10 (.getfield 271) (13) := ri_of (by decide +kernel) rfl
theorem wi_455_100 : ri (rt_P sc fm) 455 100 (.iload_n 1) (101) := ri_of (by decide +kernel) rfl
theorem wi_455_101 : ri (rt_P sc fm) 455 101 (.imul) (102) := ri_of (by decide +kernel) rfl
theorem wi_455_102 : ri (rt_P sc fm) 455 102 (.iload_n 3) (103) := ri_of (by decide +kernel) rfl
theorem wi_455_103 : ri (rt_P sc fm) 455 103 (.iadd) (104) := ri_of (by decide +kernel) rfl
theorem wi_455_104 : ri (rt_P sc fm) 455 104 (.iaload) (105) := ri_of (by decide +kernel) rfl
theorem wi_455_105 : ri (rt_P sc fm) 455 105 (.if_icmp .eq 8) (108) := ri_of (by decide +kernel) rfl
theorem wi_455_108 : ri (rt_P sc fm) 455 108 (.aload_n 0) (109) := ri_of (by decide +kernel) rfl
theorem wi_455_109 : ri (rt_P sc fm) 455 109 (.iconst 1) (110) := ri_of (by decide +kernel) rfl
theorem wi_455_110 : ri (rt_P sc fm) 455 110 (.putfield 841) (113) := ri_of (by decide +kernel) rfl
theorem wi_455_113 : ri (rt_P sc fm) 455 113 (.aload_n 0) (114) := ri_of (by decide +kernel) rfl
theorem wi_455_114 : ri (rt_P sc fm) 455 114 (.getfield 268) (117) := ri_of (by decide +kernel) rfl
theorem wi_455_117 : ri (rt_P sc fm) 455 117 (.bipush 16) (119) := ri_of (by decide +kernel) rfl
theorem wi_455_119 : ri (rt_P sc fm) 455 119 (.iload_n 1) (120) := ri_of (by decide +kernel) rfl
theorem wi_455_120 : ri (rt_P sc fm) 455 120 (.imul) (121) := ri_of (by decide +kernel) rfl
theorem wi_455_121 : ri (rt_P sc fm) 455 121 (.iload_n 3) (122) := ri_of (by decide +kernel) rfl
theorem wi_455_122 : ri (rt_P sc fm) 455 122 (.iadd) (123) := ri_of (by decide +kernel) rfl
theorem wi_455_123 : ri (rt_P sc fm) 455 123 (.iload 4) (125) := ri_of (by decide +kernel) rfl
theorem wi_455_125 : ri (rt_P sc fm) 455 125 (.iastore) (126) := ri_of (by decide +kernel) rfl
theorem wi_455_126 : ri (rt_P sc fm) 455 126 (.iinc 3 1) (129) := ri_of (by decide +kernel) rfl
theorem wi_455_129 : ri (rt_P sc fm) 455 129 (.goto (-74)) (132) := ri_of (by decide +kernel) rfl
theorem wi_455_13 : ri (rt_P sc fm) 455 13 (.iload_n 1) (14) := ri_of (by decide +kernel) rfl
theorem wi_455_132 : ri (rt_P sc fm) 455 132 (.return_) (133) := ri_of (by decide +kernel) rfl
theorem wi_455_14 : ri (rt_P sc fm) 455 14 (.iconst 1) (15) := ri_of (by decide +kernel) rfl
theorem wi_455_15 : ri (rt_P sc fm) 455 15 (.bastore) (16) := ri_of (by decide +kernel) rfl
theorem wi_455_16 : ri (rt_P sc fm) 455 16 (.aload_n 0) (17) := ri_of (by decide +kernel) rfl
theorem wi_455_17 : ri (rt_P sc fm) 455 17 (.iconst 1) (18) := ri_of (by decide +kernel) rfl
theorem wi_455_18 : ri (rt_P sc fm) 455 18 (.putfield 841) (21) := ri_of (by decide +kernel) rfl
theorem wi_455_21 : ri (rt_P sc fm) 455 21 (.iconst 0) (22) := ri_of (by decide +kernel) rfl
theorem wi_455_22 : ri (rt_P sc fm) 455 22 (.istore_n 3) (23) := ri_of (by decide +kernel) rfl
theorem wi_455_23 : ri (rt_P sc fm) 455 23 (.iload_n 3) (24) := ri_of (by decide +kernel) rfl
theorem wi_455_24 : ri (rt_P sc fm) 455 24 (.bipush 16) (26) := ri_of (by decide +kernel) rfl
theorem wi_455_26 : ri (rt_P sc fm) 455 26 (.if_icmp .ge 26) (29) := ri_of (by decide +kernel) rfl
theorem wi_455_29 : ri (rt_P sc fm) 455 29 (.aload_n 0) (30) := ri_of (by decide +kernel) rfl
theorem wi_455_30 : ri (rt_P sc fm) 455 30 (.getfield 268) (33) := ri_of (by decide +kernel) rfl
theorem wi_455_33 : ri (rt_P sc fm) 455 33 (.bipush 16) (35) := ri_of (by decide +kernel) rfl
theorem wi_455_35 : ri (rt_P sc fm) 455 35 (.iload_n 1) (36) := ri_of (by decide +kernel) rfl
theorem wi_455_36 : ri (rt_P sc fm) 455 36 (.imul) (37) := ri_of (by decide +kernel) rfl
theorem wi_455_37 : ri (rt_P sc fm) 455 37 (.iload_n 3) (38) := ri_of (by decide +kernel) rfl
theorem wi_455_38 : ri (rt_P sc fm) 455 38 (.iadd) (39) := ri_of (by decide +kernel) rfl
theorem wi_455_39 : ri (rt_P sc fm) 455 39 (.aload_n 0) (40) := ri_of (by decide +kernel) rfl
theorem wi_455_4 : ri (rt_P sc fm) 455 4 (.iload_n 1) (5) := ri_of (by decide +kernel) rfl
theorem wi_455_40 : ri (rt_P sc fm) 455 40 (.getfield 274) (43) := ri_of (by decide +kernel) rfl
theorem wi_455_43 : ri (rt_P sc fm) 455 43 (.iload_n 3) (44) := ri_of (by decide +kernel) rfl
theorem wi_455_44 : ri (rt_P sc fm) 455 44 (.iaload) (45) := ri_of (by decide +kernel) rfl
theorem wi_455_45 : ri (rt_P sc fm) 455 45 (.iastore) (46) := ri_of (by decide +kernel) rfl
theorem wi_455_46 : ri (rt_P sc fm) 455 46 (.iinc 3 1) (49) := ri_of (by decide +kernel) rfl
theorem wi_455_49 : ri (rt_P sc fm) 455 49 (.goto (-26)) (52) := ri_of (by decide +kernel) rfl
theorem wi_455_5 : ri (rt_P sc fm) 455 5 (.baload) (6) := ri_of (by decide +kernel) rfl
theorem wi_455_52 : ri (rt_P sc fm) 455 52 (.return_) (53) := ri_of (by decide +kernel) rfl
theorem wi_455_53 : ri (rt_P sc fm) 455 53 (.iconst 0) (54) := ri_of (by decide +kernel) rfl
theorem wi_455_54 : ri (rt_P sc fm) 455 54 (.istore_n 3) (55) := ri_of (by decide +kernel) rfl
theorem wi_455_55 : ri (rt_P sc fm) 455 55 (.iload_n 3) (56) := ri_of (by decide +kernel) rfl
theorem wi_455_56 : ri (rt_P sc fm) 455 56 (.bipush 8) (58) := ri_of (by decide +kernel) rfl
theorem wi_455_58 : ri (rt_P sc fm) 455 58 (.aload_n 0) (59) := ri_of (by decide +kernel) rfl
theorem wi_455_59 : ri (rt_P sc fm) 455 59 (.getfield 243) (62) := ri_of (by decide +kernel) rfl
theorem wi_455_6 : ri (rt_P sc fm) 455 6 (.ifCond .ne 47) (9) := ri_of (by decide +kernel) rfl
theorem wi_455_62 : ri (rt_P sc fm) 455 62 (.iload_n 1) (63) := ri_of (by decide +kernel) rfl
theorem wi_455_63 : ri (rt_P sc fm) 455 63 (.iaload) (64) := ri_of (by decide +kernel) rfl
theorem wi_455_64 : ri (rt_P sc fm) 455 64 (.iadd) (65) := ri_of (by decide +kernel) rfl
theorem wi_455_65 : ri (rt_P sc fm) 455 65 (.if_icmp .ge 67) (68) := ri_of (by decide +kernel) rfl
theorem wi_455_68 : ri (rt_P sc fm) 455 68 (.aload_n 0) (69) := ri_of (by decide +kernel) rfl
theorem wi_455_69 : ri (rt_P sc fm) 455 69 (.iload_n 2) (70) := ri_of (by decide +kernel) rfl
theorem wi_455_70 : ri (rt_P sc fm) 455 70 (.aload_n 0) (71) := ri_of (by decide +kernel) rfl
theorem wi_455_71 : ri (rt_P sc fm) 455 71 (.getfield 268) (74) := ri_of (by decide +kernel) rfl
theorem wi_455_74 : ri (rt_P sc fm) 455 74 (.bipush 16) (76) := ri_of (by decide +kernel) rfl
theorem wi_455_76 : ri (rt_P sc fm) 455 76 (.iload_n 1) (77) := ri_of (by decide +kernel) rfl
theorem wi_455_77 : ri (rt_P sc fm) 455 77 (.imul) (78) := ri_of (by decide +kernel) rfl
theorem wi_455_78 : ri (rt_P sc fm) 455 78 (.iload_n 3) (79) := ri_of (by decide +kernel) rfl
theorem wi_455_79 : ri (rt_P sc fm) 455 79 (.iadd) (80) := ri_of (by decide +kernel) rfl
theorem wi_455_80 : ri (rt_P sc fm) 455 80 (.iaload) (81) := ri_of (by decide +kernel) rfl
theorem wi_455_81 : ri (rt_P sc fm) 455 81 (.aload_n 0) (82) := ri_of (by decide +kernel) rfl
theorem wi_455_82 : ri (rt_P sc fm) 455 82 (.getfield 274) (85) := ri_of (by decide +kernel) rfl
theorem wi_455_85 : ri (rt_P sc fm) 455 85 (.iload_n 3) (86) := ri_of (by decide +kernel) rfl
theorem wi_455_86 : ri (rt_P sc fm) 455 86 (.iaload) (87) := ri_of (by decide +kernel) rfl
theorem wi_455_87 : ri (rt_P sc fm) 455 87 (.invokevirtual 727) (90) := ri_of (by decide +kernel) rfl
theorem wi_455_9 : ri (rt_P sc fm) 455 9 (.aload_n 0) (10) := ri_of (by decide +kernel) rfl
theorem wi_455_90 : ri (rt_P sc fm) 455 90 (.istore 4) (92) := ri_of (by decide +kernel) rfl
theorem wi_455_92 : ri (rt_P sc fm) 455 92 (.iload 4) (94) := ri_of (by decide +kernel) rfl
theorem wi_455_94 : ri (rt_P sc fm) 455 94 (.aload_n 0) (95) := ri_of (by decide +kernel) rfl
theorem wi_455_95 : ri (rt_P sc fm) 455 95 (.getfield 268) (98) := ri_of (by decide +kernel) rfl
theorem wi_455_98 : ri (rt_P sc fm) 455 98 (.bipush 16) (100) := ri_of (by decide +kernel) rfl
set_option maxRecDepth 100000 in
theorem wp_455_841 : rx_pt (rt_P sc fm) 455 841 = some (15, 90, .boolean) := (by decide +kernel : rt_pt 455 841 = some (15, 90, .boolean))
set_option maxRecDepth 100000 in
theorem wr_455 : rx_rt (rt_P sc fm) 455 = none := (by decide +kernel : rt_rt 455 = none)
/-- MarkHouseModel.comes(II)V -/
def d_455 (n : Nat) (a1 : Int32) (a2 : Int32) (c : cS) : Option (cS) :=
  if ib a1 3840 then
  if (c.1 239 (ix a1)) = 0 then
    if ib a1 3840 then
    lt (pI c 239 (ix a1) (vp_nar .boolean 1)) (fun c21 =>
    lt (pI c21 174 90 1) (fun c23 =>
    Option.bind (whl (R := (cS)) (fun s26 : Int32 × cS =>
      if 16 ≤ s26.1 then
        some (.inr s26.2)
      else
        if ib s26.1 16 then
        if ib ((16 * a1) + s26.1) 61440 then
        lt (pI s26.2 238 (ix ((16 * a1) + s26.1)) (s26.2.1 240 (ix s26.1))) (fun c29 =>
        lt (s26.1 + 1 : Int32) (fun v32 =>
        some (.inl (v32, c29))))
        else none
        else none) n (0, c23))
    (fun x34 : cS =>
      some x34)))
    else none
  else
    Option.bind (whl (R := (cS)) (fun s3 : Int32 × cS =>
      if ib a1 3840 then
      if (8 + (s3.2.1 230 (ix a1))) ≤ s3.1 then
        some (.inr s3.2)
      else
        if ib ((16 * a1) + s3.1) 61440 then
        if ib s3.1 16 then
        Option.bind (d_390 n a2 (s3.2.1 238 (ix ((16 * a1) + s3.1))) (s3.2.1 240 (ix s3.1)) s3.2) (fun v7 =>
        if ib ((16 * a1) + s3.1) 61440 then
        jn (fun p10 : cS =>
          if ib ((16 * a1) + s3.1) 61440 then
          lt (pI p10 238 (ix ((16 * a1) + s3.1)) v7) (fun c12 =>
          lt (s3.1 + 1 : Int32) (fun v15 =>
          some (.inl (v15, c12))))
          else none)
        (fun j113 =>
        if v7 = (s3.2.1 238 (ix ((16 * a1) + s3.1))) then
          j113 s3.2
        else
          lt (pI s3.2 174 90 1) (fun c17 =>
          j113 c17))
        else none)
        else none
        else none
      else none) n (0, c))
    (fun x19 : cS =>
      some x19)
  else none
set_option maxRecDepth 100000 in
set_option maxHeartbeats 4000000 in
theorem sp_455 {F Lo n : Nat} {a1 : Int32} {a2 : Int32} {c y : cS} {w : cW} {K : cS → Prop} {Q : ((Option Value) ⊕ String) → List va_E → Prop} (hw : rOK fm w) (hF : 2 ≤ F) (hLo : 46 ≤ Lo)  (h : wp (d_455 n a1 a2 c) K) (hQ : ∀ r, K r → Q (.inl none) (hq false r y w)) : rs (rt_P sc fm) 455 F Lo 0 [(0, .ref 174), (1, .int a1), (2, .int a2)] [] (hq false c y w) Q := by
  unfold d_455 at h
  obtain ⟨lv, elv⟩ : ∃ lv : rx_L, lv = [(0, .ref 174), (1, .int a1), (2, .int a2)] := ⟨_, rfl⟩
  rw [← elv]
  have l0 : rx_ld lv 0 = some (.ref 174) := by rw [elv]; rfl
  have l1 : rx_ld lv 1 = some (.int a1) := by rw [elv]; rfl
  have l2 : rx_ld lv 2 = some (.int a2) := by rw [elv]; rfl
  refine rs_aldn wi_455_0 l0 ?_
  refine dq_gr wi_455_1 wf_455_271 tf_174_88 ?_
  refine rs_ildn wi_455_4 l1 ?_
  obtain ⟨g1, h⟩ := wp_gd h
  refine dq_zald wi_455_5 t_239 g1 ?_
  refine rs_ifne (tg := 53) wi_455_6 ⟨by decide, by decide⟩ (fun q => ?_) (fun q => ?_)
  ·
    have h := wp_neg h q
    refine rs_pure wi_455_53 rfl ?_
    refine rs_topi (v := 0) (by decide) ?_
    refine dl_istn wi_455_54 rfl (fun lv l3 t2 => ?_)
    have l0 := t2 _ _ (by decide) (Or.inl rfl) l0
    have l1 := t2 _ _ (by decide) (Or.inl rfl) l1
    have l2 := t2 _ _ (by decide) (Or.inl rfl) l2
    refine whl_ex (A := fun s3 : Int32 × cS => ∀ lv, rx_ld lv 0 = some (.ref 174) → rx_ld lv 1 = some (.int a1) → rx_ld lv 2 = some (.int a2) → rx_ld lv 3 = some (.int s3.1) → rs (rt_P sc fm) 455 F Lo 55 lv [] (hq false s3.2 y w) Q) (B := (fun x19 : cS => ∀ lv, rs (rt_P sc fm) 455 F Lo 132 lv [] (hq false x19 y w) Q)) ?_ ?_ _ _ (wp_bind h) _ l0 l1 l2 l3
    · intro s3 h lv l0 l1 l2 l3
      refine rs_ildn wi_455_55 l3 ?_
      refine rs_pure wi_455_56 rfl ?_
      refine rs_topi (v := 8) (by decide) ?_
      refine rs_aldn wi_455_58 l0 ?_
      refine dq_gr wi_455_59 wf_455_243 tf_174_70 ?_
      refine rs_ildn wi_455_62 l1 ?_
      obtain ⟨g4, h⟩ := wp_gd h
      refine dq_iald wi_455_63 t_230 g4 ?_
      refine rs_pure wi_455_64 rfl ?_
      refine rs_icge (tg := 132) wi_455_65 ⟨by decide, by decide⟩ (fun q => ?_) (fun q => ?_)
      ·
        have h := wp_pos h q
        exact h _
      ·
        have h := wp_neg h q
        refine rs_aldn wi_455_68 l0 ?_
        refine rs_ildn wi_455_69 l2 ?_
        refine rs_aldn wi_455_70 l0 ?_
        refine dq_gr wi_455_71 wf_455_268 tf_174_87 ?_
        refine rs_pure wi_455_74 rfl ?_
        refine rs_topi (v := 16) (by decide) ?_
        refine rs_ildn wi_455_76 l1 ?_
        refine rs_pure wi_455_77 rfl ?_
        refine rs_ildn wi_455_78 l3 ?_
        refine rs_pure wi_455_79 rfl ?_
        obtain ⟨g5, h⟩ := wp_gd h
        refine dq_iald wi_455_80 t_238 g5 ?_
        refine rs_aldn wi_455_81 l0 ?_
        refine dq_gr wi_455_82 wf_455_274 tf_174_89 ?_
        refine rs_ildn wi_455_85 l3 ?_
        obtain ⟨g6, h⟩ := wp_gd h
        refine dq_iald wi_455_86 t_240 g6 ?_
        refine rs_V wi_455_87 wc_455_727 rfl (dq_isa tf_174_0 wa_15_390) (Nat.le_trans (by decide) hF) (ml_le wm_390 (Nat.le_trans (by decide) hLo)) rfl (sp_390 hw (Nat.le_trans (by decide : 1 ≤ 2 - 1) (Nat.sub_le_sub_right hF 1)) (ml_sub wm_390 (Nat.le_trans (by decide : 23 ≤ 46 - 23) (Nat.sub_le_sub_right hLo 23))) (wp_bind h) (fun v7 h => rs_back1 ?_))
        refine dl_ist wi_455_90 rfl (fun lv l4 t8 => ?_)
        have l0 := t8 _ _ (by decide) (Or.inl rfl) l0
        have l1 := t8 _ _ (by decide) (Or.inl rfl) l1
        have l2 := t8 _ _ (by decide) (Or.inl rfl) l2
        have l3 := t8 _ _ (by decide) (Or.inl rfl) l3
        refine rs_ild wi_455_92 l4 ?_
        refine rs_aldn wi_455_94 l0 ?_
        refine dq_gr wi_455_95 wf_455_268 tf_174_87 ?_
        refine rs_pure wi_455_98 rfl ?_
        refine rs_topi (v := 16) (by decide) ?_
        refine rs_ildn wi_455_100 l1 ?_
        refine rs_pure wi_455_101 rfl ?_
        refine rs_ildn wi_455_102 l3 ?_
        refine rs_pure wi_455_103 rfl ?_
        obtain ⟨g9, h⟩ := wp_gd h
        refine dq_iald wi_455_104 t_238 g9 ?_
        refine wp_jn (B := fun p10 : cS => ∀ lv, rx_ld lv 0 = some (.ref 174) → rx_ld lv 1 = some (.int a1) → rx_ld lv 2 = some (.int a2) → rx_ld lv 3 = some (.int s3.1) → rx_ld lv 4 = some (.int v7) → rs (rt_P sc fm) 455 F Lo 113 lv [] (hq false p10 y w) Q) h (fun p10 h lv l0 l1 l2 l3 l4 => ?_) (fun j113 hj113 h => ?_)
        ·
          refine rs_aldn wi_455_113 l0 ?_
          refine dq_gr wi_455_114 wf_455_268 tf_174_87 ?_
          refine rs_pure wi_455_117 rfl ?_
          refine rs_topi (v := 16) (by decide) ?_
          refine rs_ildn wi_455_119 l1 ?_
          refine rs_pure wi_455_120 rfl ?_
          refine rs_ildn wi_455_121 l3 ?_
          refine rs_pure wi_455_122 rfl ?_
          refine rs_ild wi_455_123 l4 ?_
          obtain ⟨g11, h⟩ := wp_gd h
          obtain ⟨c12, e13, h⟩ := wp_lt h
          refine dq_iast wi_455_125 t_238 g11 e13 ?_
          obtain ⟨v15, e16, h⟩ := wp_lt h
          refine dl_inc wi_455_126 l3 rfl e16 (fun lv l3 t14 => ?_)
          have l0 := t14 _ _ (by decide) (Or.inl rfl) l0
          have l1 := t14 _ _ (by decide) (Or.inl rfl) l1
          have l2 := t14 _ _ (by decide) (Or.inl rfl) l2
          refine rs_goto (tg := 55) wi_455_129 ⟨by decide, by decide⟩ ?_
          exact h _ l0 l1 l2 l3
        refine rs_iceq (tg := 113) wi_455_105 ⟨by decide, by decide⟩ (fun q => ?_) (fun q => ?_)
        ·
          have h := wp_pos h q
          exact hj113 _ h _ l0 l1 l2 l3 l4
        ·
          have h := wp_neg h q
          refine rs_aldn wi_455_108 l0 ?_
          refine rs_pure wi_455_109 rfl ?_
          refine rs_topi (v := 1) (by decide) ?_
          obtain ⟨c17, e18, h⟩ := wp_lt h
          refine dq_pi wi_455_110 wp_455_841 tf_174_90 (nb_n (by decide)) (nb_f (by decide)) e18 ?_
          exact hj113 _ h _ l0 l1 l2 l3 l4
    ·
      intro x19 h lv
      exact rs_vret wi_455_132 wr_455 (hQ x19 h)
  ·
    have h := wp_pos h q
    refine rs_aldn wi_455_9 l0 ?_
    refine dq_gr wi_455_10 wf_455_271 tf_174_88 ?_
    refine rs_ildn wi_455_13 l1 ?_
    refine rs_pure wi_455_14 rfl ?_
    refine rs_topi (v := 1) (by decide) ?_
    obtain ⟨g20, h⟩ := wp_gd h
    obtain ⟨c21, e22, h⟩ := wp_lt h
    refine dq_zast wi_455_15 t_239 g20 e22 ?_
    refine rs_aldn wi_455_16 l0 ?_
    refine rs_pure wi_455_17 rfl ?_
    refine rs_topi (v := 1) (by decide) ?_
    obtain ⟨c23, e24, h⟩ := wp_lt h
    refine dq_pi wi_455_18 wp_455_841 tf_174_90 (nb_n (by decide)) (nb_f (by decide)) e24 ?_
    refine rs_pure wi_455_21 rfl ?_
    refine rs_topi (v := 0) (by decide) ?_
    refine dl_istn wi_455_22 rfl (fun lv l3 t25 => ?_)
    have l0 := t25 _ _ (by decide) (Or.inl rfl) l0
    have l1 := t25 _ _ (by decide) (Or.inl rfl) l1
    refine whl_ex (A := fun s26 : Int32 × cS => ∀ lv, rx_ld lv 0 = some (.ref 174) → rx_ld lv 1 = some (.int a1) → rx_ld lv 3 = some (.int s26.1) → rs (rt_P sc fm) 455 F Lo 23 lv [] (hq false s26.2 y w) Q) (B := (fun x34 : cS => ∀ lv, rs (rt_P sc fm) 455 F Lo 52 lv [] (hq false x34 y w) Q)) ?_ ?_ _ _ (wp_bind h) _ l0 l1 l3
    · intro s26 h lv l0 l1 l3
      refine rs_ildn wi_455_23 l3 ?_
      refine rs_pure wi_455_24 rfl ?_
      refine rs_topi (v := 16) (by decide) ?_
      refine rs_icge (tg := 52) wi_455_26 ⟨by decide, by decide⟩ (fun q => ?_) (fun q => ?_)
      ·
        have h := wp_pos h q
        exact h _
      ·
        have h := wp_neg h q
        refine rs_aldn wi_455_29 l0 ?_
        refine dq_gr wi_455_30 wf_455_268 tf_174_87 ?_
        refine rs_pure wi_455_33 rfl ?_
        refine rs_topi (v := 16) (by decide) ?_
        refine rs_ildn wi_455_35 l1 ?_
        refine rs_pure wi_455_36 rfl ?_
        refine rs_ildn wi_455_37 l3 ?_
        refine rs_pure wi_455_38 rfl ?_
        refine rs_aldn wi_455_39 l0 ?_
        refine dq_gr wi_455_40 wf_455_274 tf_174_89 ?_
        refine rs_ildn wi_455_43 l3 ?_
        obtain ⟨g27, h⟩ := wp_gd h
        refine dq_iald wi_455_44 t_240 g27 ?_
        obtain ⟨g28, h⟩ := wp_gd h
        obtain ⟨c29, e30, h⟩ := wp_lt h
        refine dq_iast wi_455_45 t_238 g28 e30 ?_
        obtain ⟨v32, e33, h⟩ := wp_lt h
        refine dl_inc wi_455_46 l3 rfl e33 (fun lv l3 t31 => ?_)
        have l0 := t31 _ _ (by decide) (Or.inl rfl) l0
        have l1 := t31 _ _ (by decide) (Or.inl rfl) l1
        refine rs_goto (tg := 23) wi_455_49 ⟨by decide, by decide⟩ ?_
        exact h _ l0 l1 l3
    ·
      intro x34 h lv
      exact rs_vret wi_455_52 wr_455 (hQ x34 h)
theorem wi_451_0 : ri (rt_P sc fm) 451 0 (.bipush 100) (2) := ri_of (by decide +kernel) rfl
theorem wi_451_2 : ri (rt_P sc fm) 451 2 (.iload_n 0) (3) := ri_of (by decide +kernel) rfl
theorem wi_451_3 : ri (rt_P sc fm) 451 3 (.imul) (4) := ri_of (by decide +kernel) rfl
theorem wi_451_4 : ri (rt_P sc fm) 451 4 (.iconst 1) (5) := ri_of (by decide +kernel) rfl
theorem wi_451_5 : ri (rt_P sc fm) 451 5 (.iadd) (6) := ri_of (by decide +kernel) rfl
theorem wi_451_6 : ri (rt_P sc fm) 451 6 (.iload_n 1) (7) := ri_of (by decide +kernel) rfl
theorem wi_451_7 : ri (rt_P sc fm) 451 7 (.iadd) (8) := ri_of (by decide +kernel) rfl
theorem wi_451_8 : ri (rt_P sc fm) 451 8 (.ireturn) (9) := ri_of (by decide +kernel) rfl
set_option maxRecDepth 100000 in
theorem wr_451 : rx_rt (rt_P sc fm) 451 = (some FieldType.int) := (by decide +kernel : rt_rt 451 = (some FieldType.int))
/-- MarkHouseModel.fieldPlace(II)I -/
def d_451 (n : Nat) (a0 : Int32) (a1 : Int32) : Option (Int32) :=
  some (((100 * a0) + 1) + a1)
set_option maxRecDepth 100000 in
set_option maxHeartbeats 4000000 in
theorem sp_451 {F Lo n : Nat} {a0 : Int32} {a1 : Int32} {L : List va_E} {K : Int32 → Prop} {Q : ((Option Value) ⊕ String) → List va_E → Prop} (hF : 0 ≤ F) (hLo : 0 ≤ Lo)  (h : wp (d_451 n a0 a1) K) (hQ : ∀ r, K r → Q (.inl (some (.int r))) L) : rs (rt_P sc fm) 451 F Lo 0 [(0, .int a0), (1, .int a1)] [] L Q := by
  unfold d_451 at h
  obtain ⟨lv, elv⟩ : ∃ lv : rx_L, lv = [(0, .int a0), (1, .int a1)] := ⟨_, rfl⟩
  rw [← elv]
  have l0 : rx_ld lv 0 = some (.int a0) := by rw [elv]; rfl
  have l1 : rx_ld lv 1 = some (.int a1) := by rw [elv]; rfl
  refine rs_pure wi_451_0 rfl ?_
  refine rs_topi (v := 100) (by decide) ?_
  refine rs_ildn wi_451_2 l0 ?_
  refine rs_pure wi_451_3 rfl ?_
  refine rs_pure wi_451_4 rfl ?_
  refine rs_topi (v := 1) (by decide) ?_
  refine rs_pure wi_451_5 rfl ?_
  refine rs_ildn wi_451_6 l1 ?_
  refine rs_pure wi_451_7 rfl ?_
  exact rs_iret wi_451_8 wr_451 rfl (hQ (((100 * a0) + 1) + a1) h)
set_option maxRecDepth 100000 in
theorem wf_453_116 : rx_ft (rt_P sc fm) 453 116 = some (15, 23) := (by decide +kernel : rt_ft 453 116 = some (15, 23))
set_option maxRecDepth 100000 in
theorem wf_453_209 : rx_ft (rt_P sc fm) 453 209 = some (15, 57) := (by decide +kernel : rt_ft 453 209 = some (15, 57))
set_option maxRecDepth 100000 in
theorem wf_453_212 : rx_ft (rt_P sc fm) 453 212 = some (15, 58) := (by decide +kernel : rt_ft 453 212 = some (15, 58))
set_option maxRecDepth 100000 in
theorem wf_453_215 : rx_ft (rt_P sc fm) 453 215 = some (15, 59) := (by decide +kernel : rt_ft 453 215 = some (15, 59))
theorem wi_453_0 : ri (rt_P sc fm) 453 0 (.aload_n 0) (1) := ri_of (by decide +kernel) rfl
theorem wi_453_1 : ri (rt_P sc fm) 453 1 (.getfield 116) (4) := ri_of (by decide +kernel) rfl
theorem wi_453_10 : ri (rt_P sc fm) 453 10 (.iload 4) (12) := ri_of (by decide +kernel) rfl
theorem wi_453_12 : ri (rt_P sc fm) 453 12 (.aload_n 0) (13) := ri_of (by decide +kernel) rfl
theorem wi_453_13 : ri (rt_P sc fm) 453 13 (.getfield 209) (16) := ri_of (by decide +kernel) rfl
theorem wi_453_16 : ri (rt_P sc fm) 453 16 (.iload_n 1) (17) := ri_of (by decide +kernel) rfl
theorem wi_453_17 : ri (rt_P sc fm) 453 17 (.iaload) (18) := ri_of (by decide +kernel) rfl
theorem wi_453_18 : ri (rt_P sc fm) 453 18 (.if_icmp .ge 40) (21) := ri_of (by decide +kernel) rfl
theorem wi_453_21 : ri (rt_P sc fm) 453 21 (.aload_n 0) (22) := ri_of (by decide +kernel) rfl
theorem wi_453_22 : ri (rt_P sc fm) 453 22 (.getfield 212) (25) := ri_of (by decide +kernel) rfl
theorem wi_453_25 : ri (rt_P sc fm) 453 25 (.iconst 4) (26) := ri_of (by decide +kernel) rfl
theorem wi_453_26 : ri (rt_P sc fm) 453 26 (.iload_n 1) (27) := ri_of (by decide +kernel) rfl
theorem wi_453_27 : ri (rt_P sc fm) 453 27 (.imul) (28) := ri_of (by decide +kernel) rfl
theorem wi_453_28 : ri (rt_P sc fm) 453 28 (.iload 4) (30) := ri_of (by decide +kernel) rfl
theorem wi_453_30 : ri (rt_P sc fm) 453 30 (.iadd) (31) := ri_of (by decide +kernel) rfl
theorem wi_453_31 : ri (rt_P sc fm) 453 31 (.iaload) (32) := ri_of (by decide +kernel) rfl
theorem wi_453_32 : ri (rt_P sc fm) 453 32 (.iload_n 2) (33) := ri_of (by decide +kernel) rfl
theorem wi_453_33 : ri (rt_P sc fm) 453 33 (.if_icmp .ne 17) (36) := ri_of (by decide +kernel) rfl
theorem wi_453_36 : ri (rt_P sc fm) 453 36 (.aload_n 0) (37) := ri_of (by decide +kernel) rfl
theorem wi_453_37 : ri (rt_P sc fm) 453 37 (.getfield 215) (40) := ri_of (by decide +kernel) rfl
theorem wi_453_4 : ri (rt_P sc fm) 453 4 (.iload_n 2) (5) := ri_of (by decide +kernel) rfl
theorem wi_453_40 : ri (rt_P sc fm) 453 40 (.iconst 4) (41) := ri_of (by decide +kernel) rfl
theorem wi_453_41 : ri (rt_P sc fm) 453 41 (.iload_n 1) (42) := ri_of (by decide +kernel) rfl
theorem wi_453_42 : ri (rt_P sc fm) 453 42 (.imul) (43) := ri_of (by decide +kernel) rfl
theorem wi_453_43 : ri (rt_P sc fm) 453 43 (.iload 4) (45) := ri_of (by decide +kernel) rfl
theorem wi_453_45 : ri (rt_P sc fm) 453 45 (.iadd) (46) := ri_of (by decide +kernel) rfl
theorem wi_453_46 : ri (rt_P sc fm) 453 46 (.iaload) (47) := ri_of (by decide +kernel) rfl
theorem wi_453_47 : ri (rt_P sc fm) 453 47 (.goto 4) (50) := ri_of (by decide +kernel) rfl
theorem wi_453_5 : ri (rt_P sc fm) 453 5 (.iaload) (6) := ri_of (by decide +kernel) rfl
theorem wi_453_50 : ri (rt_P sc fm) 453 50 (.iload_n 3) (51) := ri_of (by decide +kernel) rfl
theorem wi_453_51 : ri (rt_P sc fm) 453 51 (.istore_n 3) (52) := ri_of (by decide +kernel) rfl
theorem wi_453_52 : ri (rt_P sc fm) 453 52 (.iinc 4 1) (55) := ri_of (by decide +kernel) rfl
theorem wi_453_55 : ri (rt_P sc fm) 453 55 (.goto (-45)) (58) := ri_of (by decide +kernel) rfl
theorem wi_453_58 : ri (rt_P sc fm) 453 58 (.iload_n 3) (59) := ri_of (by decide +kernel) rfl
theorem wi_453_59 : ri (rt_P sc fm) 453 59 (.ireturn) (60) := ri_of (by decide +kernel) rfl
theorem wi_453_6 : ri (rt_P sc fm) 453 6 (.istore_n 3) (7) := ri_of (by decide +kernel) rfl
theorem wi_453_7 : ri (rt_P sc fm) 453 7 (.iconst 0) (8) := ri_of (by decide +kernel) rfl
theorem wi_453_8 : ri (rt_P sc fm) 453 8 (.istore 4) (10) := ri_of (by decide +kernel) rfl
set_option maxRecDepth 100000 in
theorem wr_453 : rx_rt (rt_P sc fm) 453 = (some FieldType.int) := (by decide +kernel : rt_rt 453 = (some FieldType.int))
/-- MarkHouseModel.toldOf(II)I -/
def d_453 (n : Nat) (a1 : Int32) (a2 : Int32) (c : cS) : Option (Int32) :=
  if ib a2 4 then
  lt ((c.1 188 (ix a2)) : Int32) (fun v3 =>
  Option.bind (whl (R := (Int32)) (fun s6 : Int32 × Int32 =>
    if ib a1 3840 then
    if (c.1 219 (ix a1)) ≤ s6.2 then
      some (.inr s6.1)
    else
      if ib ((4 * a1) + s6.2) 15360 then
      jn (fun p9 : Int32 =>
        lt (s6.2 + 1 : Int32) (fun v12 =>
        some (.inl (p9, v12))))
      (fun j51 =>
      if (c.1 220 (ix ((4 * a1) + s6.2))) = a2 then
        if ib ((4 * a1) + s6.2) 15360 then
        j51 (c.1 221 (ix ((4 * a1) + s6.2)))
        else none
      else
        j51 s6.1)
      else none
    else none) n (v3, 0))
  (fun x15 : Int32 =>
    some x15))
  else none
set_option maxRecDepth 100000 in
set_option maxHeartbeats 4000000 in
theorem sp_453 {F Lo n : Nat} {a1 : Int32} {a2 : Int32} {c y : cS} {w : cW} {K : Int32 → Prop} {Q : ((Option Value) ⊕ String) → List va_E → Prop} (hw : rOK fm w) (hF : 0 ≤ F) (hLo : 0 ≤ Lo)  (h : wp (d_453 n a1 a2 c) K) (hQ : ∀ r, K r → Q (.inl (some (.int r))) (hq false c y w)) : rs (rt_P sc fm) 453 F Lo 0 [(0, .ref 174), (1, .int a1), (2, .int a2)] [] (hq false c y w) Q := by
  unfold d_453 at h
  obtain ⟨lv, elv⟩ : ∃ lv : rx_L, lv = [(0, .ref 174), (1, .int a1), (2, .int a2)] := ⟨_, rfl⟩
  rw [← elv]
  have l0 : rx_ld lv 0 = some (.ref 174) := by rw [elv]; rfl
  have l1 : rx_ld lv 1 = some (.int a1) := by rw [elv]; rfl
  have l2 : rx_ld lv 2 = some (.int a2) := by rw [elv]; rfl
  refine rs_aldn wi_453_0 l0 ?_
  refine dq_gr wi_453_1 wf_453_116 tf_174_23 ?_
  refine rs_ildn wi_453_4 l2 ?_
  obtain ⟨g1, h⟩ := wp_gd h
  refine dq_iald wi_453_5 t_188 g1 ?_
  obtain ⟨v3, e4, h⟩ := wp_lt h
  refine rs_topi e4 ?_
  refine dl_istn wi_453_6 rfl (fun lv l3 t2 => ?_)
  have l0 := t2 _ _ (by decide) (Or.inl rfl) l0
  have l1 := t2 _ _ (by decide) (Or.inl rfl) l1
  have l2 := t2 _ _ (by decide) (Or.inl rfl) l2
  refine rs_pure wi_453_7 rfl ?_
  refine rs_topi (v := 0) (by decide) ?_
  refine dl_ist wi_453_8 rfl (fun lv l4 t5 => ?_)
  have l0 := t5 _ _ (by decide) (Or.inl rfl) l0
  have l1 := t5 _ _ (by decide) (Or.inl rfl) l1
  have l2 := t5 _ _ (by decide) (Or.inl rfl) l2
  have l3 := t5 _ _ (by decide) (Or.inl rfl) l3
  refine whl_ex (A := fun s6 : Int32 × Int32 => ∀ lv, rx_ld lv 0 = some (.ref 174) → rx_ld lv 1 = some (.int a1) → rx_ld lv 2 = some (.int a2) → rx_ld lv 3 = some (.int s6.1) → rx_ld lv 4 = some (.int s6.2) → rs (rt_P sc fm) 453 F Lo 10 lv [] (hq false c y w) Q) (B := (fun x15 : Int32 => ∀ lv, rx_ld lv 3 = some (.int x15) → rs (rt_P sc fm) 453 F Lo 58 lv [] (hq false c y w) Q)) ?_ ?_ _ _ (wp_bind h) _ l0 l1 l2 l3 l4
  · intro s6 h lv l0 l1 l2 l3 l4
    refine rs_ild wi_453_10 l4 ?_
    refine rs_aldn wi_453_12 l0 ?_
    refine dq_gr wi_453_13 wf_453_209 tf_174_57 ?_
    refine rs_ildn wi_453_16 l1 ?_
    obtain ⟨g7, h⟩ := wp_gd h
    refine dq_iald wi_453_17 t_219 g7 ?_
    refine rs_icge (tg := 58) wi_453_18 ⟨by decide, by decide⟩ (fun q => ?_) (fun q => ?_)
    ·
      have h := wp_pos h q
      exact h _ l3
    ·
      have h := wp_neg h q
      refine rs_aldn wi_453_21 l0 ?_
      refine dq_gr wi_453_22 wf_453_212 tf_174_58 ?_
      refine rs_pure wi_453_25 rfl ?_
      refine rs_topi (v := 4) (by decide) ?_
      refine rs_ildn wi_453_26 l1 ?_
      refine rs_pure wi_453_27 rfl ?_
      refine rs_ild wi_453_28 l4 ?_
      refine rs_pure wi_453_30 rfl ?_
      obtain ⟨g8, h⟩ := wp_gd h
      refine dq_iald wi_453_31 t_220 g8 ?_
      refine rs_ildn wi_453_32 l2 ?_
      refine wp_jn (B := fun p9 : Int32 => ∀ lv, rx_ld lv 0 = some (.ref 174) → rx_ld lv 1 = some (.int a1) → rx_ld lv 2 = some (.int a2) → rx_ld lv 4 = some (.int s6.2) → rs (rt_P sc fm) 453 F Lo 51 lv [.int p9] (hq false c y w) Q) h (fun p9 h lv l0 l1 l2 l4 => ?_) (fun j51 hj51 h => ?_)
      ·
        refine dl_istn wi_453_51 rfl (fun lv l3 t10 => ?_)
        have l0 := t10 _ _ (by decide) (Or.inl rfl) l0
        have l1 := t10 _ _ (by decide) (Or.inl rfl) l1
        have l2 := t10 _ _ (by decide) (Or.inl rfl) l2
        have l4 := t10 _ _ (by decide) (Or.inl rfl) l4
        obtain ⟨v12, e13, h⟩ := wp_lt h
        refine dl_inc wi_453_52 l4 rfl e13 (fun lv l4 t11 => ?_)
        have l0 := t11 _ _ (by decide) (Or.inl rfl) l0
        have l1 := t11 _ _ (by decide) (Or.inl rfl) l1
        have l2 := t11 _ _ (by decide) (Or.inl rfl) l2
        have l3 := t11 _ _ (by decide) (Or.inl rfl) l3
        refine rs_goto (tg := 10) wi_453_55 ⟨by decide, by decide⟩ ?_
        exact h _ l0 l1 l2 l3 l4
      refine rs_icne (tg := 50) wi_453_33 ⟨by decide, by decide⟩ (fun q => ?_) (fun q => ?_)
      ·
        have h := wp_neg h q
        refine rs_ildn wi_453_50 l3 ?_
        exact hj51 _ h _ l0 l1 l2 l4
      ·
        have h := wp_pos h q
        refine rs_aldn wi_453_36 l0 ?_
        refine dq_gr wi_453_37 wf_453_215 tf_174_59 ?_
        refine rs_pure wi_453_40 rfl ?_
        refine rs_topi (v := 4) (by decide) ?_
        refine rs_ildn wi_453_41 l1 ?_
        refine rs_pure wi_453_42 rfl ?_
        refine rs_ild wi_453_43 l4 ?_
        refine rs_pure wi_453_45 rfl ?_
        obtain ⟨g14, h⟩ := wp_gd h
        refine dq_iald wi_453_46 t_221 g14 ?_
        refine rs_goto (tg := 51) wi_453_47 ⟨by decide, by decide⟩ ?_
        exact hj51 _ h _ l0 l1 l2 l4
  ·
    intro x15 h lv l3
    refine rs_ildn wi_453_58 l3 ?_
    exact rs_iret wi_453_59 wr_453 rfl (hQ x15 h)
set_option maxRecDepth 100000 in
theorem wa_15_453 : rz_cn 15 (rx_yn (rt_P sc fm) 453).cls = true := (by decide +kernel : rz_cn 15 (rt_yn 453).cls = true)
set_option maxRecDepth 100000 in
theorem wc_454_661 : rx_ct (rt_P sc fm) 454 661 = some (1, 422, 1) := (by decide +kernel : rt_ct 454 661 = some (1, 422, 1))
set_option maxRecDepth 100000 in
theorem wc_454_727 : rx_ct (rt_P sc fm) 454 727 = some (0, 390, 3) := (by decide +kernel : rt_ct 454 727 = some (0, 390, 3))
set_option maxRecDepth 100000 in
theorem wc_454_835 : rx_ct (rt_P sc fm) 454 835 = some (0, 453, 2) := (by decide +kernel : rt_ct 454 835 = some (0, 453, 2))
set_option maxRecDepth 100000 in
theorem wc_454_838 : rx_ct (rt_P sc fm) 454 838 = some (1, 451, 2) := (by decide +kernel : rt_ct 454 838 = some (1, 451, 2))
set_option maxRecDepth 100000 in
theorem wf_454_173 : rx_ft (rt_P sc fm) 454 173 = some (15, 45) := (by decide +kernel : rt_ft 454 173 = some (15, 45))
set_option maxRecDepth 100000 in
theorem wf_454_185 : rx_ft (rt_P sc fm) 454 185 = some (15, 49) := (by decide +kernel : rt_ft 454 185 = some (15, 49))
set_option maxRecDepth 100000 in
theorem wf_454_194 : rx_ft (rt_P sc fm) 454 194 = some (15, 52) := (by decide +kernel : rt_ft 454 194 = some (15, 52))
set_option maxRecDepth 100000 in
theorem wf_454_197 : rx_ft (rt_P sc fm) 454 197 = some (15, 53) := (by decide +kernel : rt_ft 454 197 = some (15, 53))
set_option maxRecDepth 100000 in
theorem wf_454_243 : rx_ft (rt_P sc fm) 454 243 = some (15, 70) := (by decide +kernel : rt_ft 454 243 = some (15, 70))
set_option maxRecDepth 100000 in
theorem wf_454_261 : rx_ft (rt_P sc fm) 454 261 = some (15, 85) := (by decide +kernel : rt_ft 454 261 = some (15, 85))
set_option maxRecDepth 100000 in
theorem wf_454_274 : rx_ft (rt_P sc fm) 454 274 = some (15, 89) := (by decide +kernel : rt_ft 454 274 = some (15, 89))
theorem wi_454_0 : ri (rt_P sc fm) 454 0 (.bipush 8) (2) := ri_of (by decide +kernel) rfl
theorem wi_454_10 : ri (rt_P sc fm) 454 10 (.aload_n 0) (11) := ri_of (by decide +kernel) rfl
theorem wi_454_100 : ri (rt_P sc fm) 454 100 (.aload_n 0) (101) := ri_of (by decide +kernel) rfl
theorem wi_454_101 : ri (rt_P sc fm) 454 101 (.getfield 274) (104) := ri_of (by decide +kernel) rfl
theorem wi_454_104 : ri (rt_P sc fm) 454 104 (.iload_n 3) (105) := ri_of (by decide +kernel) rfl
theorem wi_454_105 : ri (rt_P sc fm) 454 105 (.aload_n 0) (106) := ri_of (by decide +kernel) rfl
theorem wi_454_106 : ri (rt_P sc fm) 454 106 (.iload_n 1) (107) := ri_of (by decide +kernel) rfl
theorem wi_454_107 : ri (rt_P sc fm) 454 107 (.iload_n 2) (108) := ri_of (by decide +kernel) rfl
theorem wi_454_108 : ri (rt_P sc fm) 454 108 (.invokevirtual 835) (111) := ri_of (by decide +kernel) rfl
theorem wi_454_11 : ri (rt_P sc fm) 454 11 (.getfield 185) (14) := ri_of (by decide +kernel) rfl
theorem wi_454_111 : ri (rt_P sc fm) 454 111 (.iastore) (112) := ri_of (by decide +kernel) rfl
theorem wi_454_112 : ri (rt_P sc fm) 454 112 (.return_) (113) := ri_of (by decide +kernel) rfl
theorem wi_454_113 : ri (rt_P sc fm) 454 113 (.aload_n 0) (114) := ri_of (by decide +kernel) rfl
theorem wi_454_114 : ri (rt_P sc fm) 454 114 (.getfield 274) (117) := ri_of (by decide +kernel) rfl
theorem wi_454_117 : ri (rt_P sc fm) 454 117 (.iload_n 3) (118) := ri_of (by decide +kernel) rfl
theorem wi_454_118 : ri (rt_P sc fm) 454 118 (.aload_n 0) (119) := ri_of (by decide +kernel) rfl
theorem wi_454_119 : ri (rt_P sc fm) 454 119 (.getfield 274) (122) := ri_of (by decide +kernel) rfl
theorem wi_454_122 : ri (rt_P sc fm) 454 122 (.aload_n 0) (123) := ri_of (by decide +kernel) rfl
theorem wi_454_123 : ri (rt_P sc fm) 454 123 (.getfield 194) (126) := ri_of (by decide +kernel) rfl
theorem wi_454_126 : ri (rt_P sc fm) 454 126 (.iload_n 1) (127) := ri_of (by decide +kernel) rfl
theorem wi_454_127 : ri (rt_P sc fm) 454 127 (.iaload) (128) := ri_of (by decide +kernel) rfl
theorem wi_454_128 : ri (rt_P sc fm) 454 128 (.iaload) (129) := ri_of (by decide +kernel) rfl
theorem wi_454_129 : ri (rt_P sc fm) 454 129 (.iastore) (130) := ri_of (by decide +kernel) rfl
theorem wi_454_130 : ri (rt_P sc fm) 454 130 (.return_) (131) := ri_of (by decide +kernel) rfl
theorem wi_454_131 : ri (rt_P sc fm) 454 131 (.aload_n 0) (132) := ri_of (by decide +kernel) rfl
theorem wi_454_132 : ri (rt_P sc fm) 454 132 (.getfield 274) (135) := ri_of (by decide +kernel) rfl
theorem wi_454_135 : ri (rt_P sc fm) 454 135 (.aload_n 0) (136) := ri_of (by decide +kernel) rfl
theorem wi_454_136 : ri (rt_P sc fm) 454 136 (.getfield 194) (139) := ri_of (by decide +kernel) rfl
theorem wi_454_139 : ri (rt_P sc fm) 454 139 (.iload_n 1) (140) := ri_of (by decide +kernel) rfl
theorem wi_454_14 : ri (rt_P sc fm) 454 14 (.iload_n 1) (15) := ri_of (by decide +kernel) rfl
theorem wi_454_140 : ri (rt_P sc fm) 454 140 (.iaload) (141) := ri_of (by decide +kernel) rfl
theorem wi_454_141 : ri (rt_P sc fm) 454 141 (.aload_n 0) (142) := ri_of (by decide +kernel) rfl
theorem wi_454_142 : ri (rt_P sc fm) 454 142 (.getfield 274) (145) := ri_of (by decide +kernel) rfl
theorem wi_454_145 : ri (rt_P sc fm) 454 145 (.iload_n 3) (146) := ri_of (by decide +kernel) rfl
theorem wi_454_146 : ri (rt_P sc fm) 454 146 (.iconst 1) (147) := ri_of (by decide +kernel) rfl
theorem wi_454_147 : ri (rt_P sc fm) 454 147 (.isub) (148) := ri_of (by decide +kernel) rfl
theorem wi_454_148 : ri (rt_P sc fm) 454 148 (.iaload) (149) := ri_of (by decide +kernel) rfl
theorem wi_454_149 : ri (rt_P sc fm) 454 149 (.iastore) (150) := ri_of (by decide +kernel) rfl
theorem wi_454_15 : ri (rt_P sc fm) 454 15 (.iaload) (16) := ri_of (by decide +kernel) rfl
theorem wi_454_150 : ri (rt_P sc fm) 454 150 (.return_) (151) := ri_of (by decide +kernel) rfl
theorem wi_454_151 : ri (rt_P sc fm) 454 151 (.aload_n 0) (152) := ri_of (by decide +kernel) rfl
theorem wi_454_152 : ri (rt_P sc fm) 454 152 (.getfield 274) (155) := ri_of (by decide +kernel) rfl
theorem wi_454_155 : ri (rt_P sc fm) 454 155 (.iload_n 3) (156) := ri_of (by decide +kernel) rfl
theorem wi_454_156 : ri (rt_P sc fm) 454 156 (.aload_n 0) (157) := ri_of (by decide +kernel) rfl
theorem wi_454_157 : ri (rt_P sc fm) 454 157 (.getfield 261) (160) := ri_of (by decide +kernel) rfl
theorem wi_454_16 : ri (rt_P sc fm) 454 16 (.tableswitch 275 14 30 #[84, 84, 97, 115, 135, 275, 162, 275, 205, 205, 205, 235, 275, 275, 275, 275, 250]) (16 + rx_len (.tableswitch 275 14 30 #[84, 84, 97, 115, 135, 275, 162, 275, 205, 205, 205, 235, 275, 275, 275, 275, 250])) := ri_of (by decide +kernel) rfl
theorem wi_454_160 : ri (rt_P sc fm) 454 160 (.aload_n 0) (161) := ri_of (by decide +kernel) rfl
theorem wi_454_161 : ri (rt_P sc fm) 454 161 (.getfield 194) (164) := ri_of (by decide +kernel) rfl
theorem wi_454_164 : ri (rt_P sc fm) 454 164 (.iload_n 1) (165) := ri_of (by decide +kernel) rfl
theorem wi_454_165 : ri (rt_P sc fm) 454 165 (.iaload) (166) := ri_of (by decide +kernel) rfl
theorem wi_454_166 : ri (rt_P sc fm) 454 166 (.aload_n 0) (167) := ri_of (by decide +kernel) rfl
theorem wi_454_167 : ri (rt_P sc fm) 454 167 (.getfield 197) (170) := ri_of (by decide +kernel) rfl
theorem wi_454_170 : ri (rt_P sc fm) 454 170 (.iload_n 1) (171) := ri_of (by decide +kernel) rfl
theorem wi_454_171 : ri (rt_P sc fm) 454 171 (.iaload) (172) := ri_of (by decide +kernel) rfl
theorem wi_454_172 : ri (rt_P sc fm) 454 172 (.invokestatic 838) (175) := ri_of (by decide +kernel) rfl
theorem wi_454_175 : ri (rt_P sc fm) 454 175 (.iaload) (176) := ri_of (by decide +kernel) rfl
theorem wi_454_176 : ri (rt_P sc fm) 454 176 (.iastore) (177) := ri_of (by decide +kernel) rfl
theorem wi_454_177 : ri (rt_P sc fm) 454 177 (.return_) (178) := ri_of (by decide +kernel) rfl
theorem wi_454_178 : ri (rt_P sc fm) 454 178 (.bipush 8) (180) := ri_of (by decide +kernel) rfl
theorem wi_454_180 : ri (rt_P sc fm) 454 180 (.aload_n 0) (181) := ri_of (by decide +kernel) rfl
theorem wi_454_181 : ri (rt_P sc fm) 454 181 (.getfield 194) (184) := ri_of (by decide +kernel) rfl
theorem wi_454_184 : ri (rt_P sc fm) 454 184 (.iload_n 1) (185) := ri_of (by decide +kernel) rfl
theorem wi_454_185 : ri (rt_P sc fm) 454 185 (.iaload) (186) := ri_of (by decide +kernel) rfl
theorem wi_454_186 : ri (rt_P sc fm) 454 186 (.imul) (187) := ri_of (by decide +kernel) rfl
theorem wi_454_187 : ri (rt_P sc fm) 454 187 (.aload_n 0) (188) := ri_of (by decide +kernel) rfl
theorem wi_454_188 : ri (rt_P sc fm) 454 188 (.getfield 197) (191) := ri_of (by decide +kernel) rfl
theorem wi_454_191 : ri (rt_P sc fm) 454 191 (.iload_n 1) (192) := ri_of (by decide +kernel) rfl
theorem wi_454_192 : ri (rt_P sc fm) 454 192 (.iaload) (193) := ri_of (by decide +kernel) rfl
theorem wi_454_193 : ri (rt_P sc fm) 454 193 (.iadd) (194) := ri_of (by decide +kernel) rfl
theorem wi_454_194 : ri (rt_P sc fm) 454 194 (.istore 4) (196) := ri_of (by decide +kernel) rfl
theorem wi_454_196 : ri (rt_P sc fm) 454 196 (.aload_n 0) (197) := ri_of (by decide +kernel) rfl
theorem wi_454_197 : ri (rt_P sc fm) 454 197 (.getfield 274) (200) := ri_of (by decide +kernel) rfl
theorem wi_454_2 : ri (rt_P sc fm) 454 2 (.aload_n 0) (3) := ri_of (by decide +kernel) rfl
theorem wi_454_200 : ri (rt_P sc fm) 454 200 (.iload_n 3) (201) := ri_of (by decide +kernel) rfl
theorem wi_454_201 : ri (rt_P sc fm) 454 201 (.aload_n 0) (202) := ri_of (by decide +kernel) rfl
theorem wi_454_202 : ri (rt_P sc fm) 454 202 (.getfield 173) (205) := ri_of (by decide +kernel) rfl
theorem wi_454_205 : ri (rt_P sc fm) 454 205 (.iload 4) (207) := ri_of (by decide +kernel) rfl
theorem wi_454_207 : ri (rt_P sc fm) 454 207 (.iaload) (208) := ri_of (by decide +kernel) rfl
theorem wi_454_208 : ri (rt_P sc fm) 454 208 (.isub) (209) := ri_of (by decide +kernel) rfl
theorem wi_454_209 : ri (rt_P sc fm) 454 209 (.aload_n 0) (210) := ri_of (by decide +kernel) rfl
theorem wi_454_210 : ri (rt_P sc fm) 454 210 (.getfield 261) (213) := ri_of (by decide +kernel) rfl
theorem wi_454_213 : ri (rt_P sc fm) 454 213 (.iload 4) (215) := ri_of (by decide +kernel) rfl
theorem wi_454_215 : ri (rt_P sc fm) 454 215 (.invokestatic 661) (218) := ri_of (by decide +kernel) rfl
theorem wi_454_218 : ri (rt_P sc fm) 454 218 (.iaload) (219) := ri_of (by decide +kernel) rfl
theorem wi_454_219 : ri (rt_P sc fm) 454 219 (.iastore) (220) := ri_of (by decide +kernel) rfl
theorem wi_454_220 : ri (rt_P sc fm) 454 220 (.return_) (221) := ri_of (by decide +kernel) rfl
theorem wi_454_221 : ri (rt_P sc fm) 454 221 (.aload_n 0) (222) := ri_of (by decide +kernel) rfl
theorem wi_454_222 : ri (rt_P sc fm) 454 222 (.getfield 274) (225) := ri_of (by decide +kernel) rfl
theorem wi_454_225 : ri (rt_P sc fm) 454 225 (.iload_n 3) (226) := ri_of (by decide +kernel) rfl
theorem wi_454_226 : ri (rt_P sc fm) 454 226 (.iconst 2) (227) := ri_of (by decide +kernel) rfl
theorem wi_454_227 : ri (rt_P sc fm) 454 227 (.isub) (228) := ri_of (by decide +kernel) rfl
theorem wi_454_228 : ri (rt_P sc fm) 454 228 (.aload_n 0) (229) := ri_of (by decide +kernel) rfl
theorem wi_454_229 : ri (rt_P sc fm) 454 229 (.iload_n 2) (230) := ri_of (by decide +kernel) rfl
theorem wi_454_230 : ri (rt_P sc fm) 454 230 (.aload_n 0) (231) := ri_of (by decide +kernel) rfl
theorem wi_454_231 : ri (rt_P sc fm) 454 231 (.getfield 274) (234) := ri_of (by decide +kernel) rfl
theorem wi_454_234 : ri (rt_P sc fm) 454 234 (.iload_n 3) (235) := ri_of (by decide +kernel) rfl
theorem wi_454_235 : ri (rt_P sc fm) 454 235 (.iconst 2) (236) := ri_of (by decide +kernel) rfl
theorem wi_454_236 : ri (rt_P sc fm) 454 236 (.isub) (237) := ri_of (by decide +kernel) rfl
theorem wi_454_237 : ri (rt_P sc fm) 454 237 (.iaload) (238) := ri_of (by decide +kernel) rfl
theorem wi_454_238 : ri (rt_P sc fm) 454 238 (.aload_n 0) (239) := ri_of (by decide +kernel) rfl
theorem wi_454_239 : ri (rt_P sc fm) 454 239 (.getfield 274) (242) := ri_of (by decide +kernel) rfl
theorem wi_454_242 : ri (rt_P sc fm) 454 242 (.iload_n 3) (243) := ri_of (by decide +kernel) rfl
theorem wi_454_243 : ri (rt_P sc fm) 454 243 (.iconst 1) (244) := ri_of (by decide +kernel) rfl
theorem wi_454_244 : ri (rt_P sc fm) 454 244 (.isub) (245) := ri_of (by decide +kernel) rfl
theorem wi_454_245 : ri (rt_P sc fm) 454 245 (.iaload) (246) := ri_of (by decide +kernel) rfl
theorem wi_454_246 : ri (rt_P sc fm) 454 246 (.invokevirtual 727) (249) := ri_of (by decide +kernel) rfl
theorem wi_454_249 : ri (rt_P sc fm) 454 249 (.iastore) (250) := ri_of (by decide +kernel) rfl
theorem wi_454_250 : ri (rt_P sc fm) 454 250 (.return_) (251) := ri_of (by decide +kernel) rfl
theorem wi_454_251 : ri (rt_P sc fm) 454 251 (.aload_n 0) (252) := ri_of (by decide +kernel) rfl
theorem wi_454_252 : ri (rt_P sc fm) 454 252 (.getfield 274) (255) := ri_of (by decide +kernel) rfl
theorem wi_454_255 : ri (rt_P sc fm) 454 255 (.iload_n 3) (256) := ri_of (by decide +kernel) rfl
theorem wi_454_256 : ri (rt_P sc fm) 454 256 (.aload_n 0) (257) := ri_of (by decide +kernel) rfl
theorem wi_454_257 : ri (rt_P sc fm) 454 257 (.getfield 274) (260) := ri_of (by decide +kernel) rfl
theorem wi_454_260 : ri (rt_P sc fm) 454 260 (.iload_n 3) (261) := ri_of (by decide +kernel) rfl
theorem wi_454_261 : ri (rt_P sc fm) 454 261 (.iconst 1) (262) := ri_of (by decide +kernel) rfl
theorem wi_454_262 : ri (rt_P sc fm) 454 262 (.isub) (263) := ri_of (by decide +kernel) rfl
theorem wi_454_263 : ri (rt_P sc fm) 454 263 (.iaload) (264) := ri_of (by decide +kernel) rfl
theorem wi_454_264 : ri (rt_P sc fm) 454 264 (.iastore) (265) := ri_of (by decide +kernel) rfl
theorem wi_454_265 : ri (rt_P sc fm) 454 265 (.return_) (266) := ri_of (by decide +kernel) rfl
theorem wi_454_266 : ri (rt_P sc fm) 454 266 (.aload_n 0) (267) := ri_of (by decide +kernel) rfl
theorem wi_454_267 : ri (rt_P sc fm) 454 267 (.getfield 194) (270) := ri_of (by decide +kernel) rfl
theorem wi_454_270 : ri (rt_P sc fm) 454 270 (.iload_n 1) (271) := ri_of (by decide +kernel) rfl
theorem wi_454_271 : ri (rt_P sc fm) 454 271 (.iaload) (272) := ri_of (by decide +kernel) rfl
theorem wi_454_272 : ri (rt_P sc fm) 454 272 (.iload_n 2) (273) := ri_of (by decide +kernel) rfl
theorem wi_454_273 : ri (rt_P sc fm) 454 273 (.if_icmp .ne 17) (276) := ri_of (by decide +kernel) rfl
theorem wi_454_276 : ri (rt_P sc fm) 454 276 (.aload_n 0) (277) := ri_of (by decide +kernel) rfl
theorem wi_454_277 : ri (rt_P sc fm) 454 277 (.getfield 274) (280) := ri_of (by decide +kernel) rfl
theorem wi_454_280 : ri (rt_P sc fm) 454 280 (.iload_n 3) (281) := ri_of (by decide +kernel) rfl
theorem wi_454_281 : ri (rt_P sc fm) 454 281 (.iconst 1) (282) := ri_of (by decide +kernel) rfl
theorem wi_454_282 : ri (rt_P sc fm) 454 282 (.isub) (283) := ri_of (by decide +kernel) rfl
theorem wi_454_283 : ri (rt_P sc fm) 454 283 (.aload_n 0) (284) := ri_of (by decide +kernel) rfl
theorem wi_454_284 : ri (rt_P sc fm) 454 284 (.getfield 197) (287) := ri_of (by decide +kernel) rfl
theorem wi_454_287 : ri (rt_P sc fm) 454 287 (.iload_n 1) (288) := ri_of (by decide +kernel) rfl
theorem wi_454_288 : ri (rt_P sc fm) 454 288 (.iaload) (289) := ri_of (by decide +kernel) rfl
theorem wi_454_289 : ri (rt_P sc fm) 454 289 (.iastore) (290) := ri_of (by decide +kernel) rfl
theorem wi_454_290 : ri (rt_P sc fm) 454 290 (.return_) (291) := ri_of (by decide +kernel) rfl
theorem wi_454_291 : ri (rt_P sc fm) 454 291 (.return_) (292) := ri_of (by decide +kernel) rfl
theorem wi_454_3 : ri (rt_P sc fm) 454 3 (.getfield 243) (6) := ri_of (by decide +kernel) rfl
theorem wi_454_6 : ri (rt_P sc fm) 454 6 (.iload_n 1) (7) := ri_of (by decide +kernel) rfl
theorem wi_454_7 : ri (rt_P sc fm) 454 7 (.iaload) (8) := ri_of (by decide +kernel) rfl
theorem wi_454_8 : ri (rt_P sc fm) 454 8 (.iadd) (9) := ri_of (by decide +kernel) rfl
theorem wi_454_9 : ri (rt_P sc fm) 454 9 (.istore_n 3) (10) := ri_of (by decide +kernel) rfl
set_option maxRecDepth 100000 in
theorem wm_451 : rx_ml (rt_P sc fm) 451 = 2 := (by decide +kernel : rt_ml 451 = 2)
set_option maxRecDepth 100000 in
theorem wm_453 : rx_ml (rt_P sc fm) 453 = 5 := (by decide +kernel : rt_ml 453 = 5)
set_option maxRecDepth 100000 in
theorem wr_454 : rx_rt (rt_P sc fm) 454 = none := (by decide +kernel : rt_rt 454 = none)
/-- MarkHouseModel.does(II)V -/
def d_454 (n : Nat) (a1 : Int32) (a2 : Int32) (c : cS) : Option (cS) :=
  if ib a1 3840 then
  lt ((8 + (c.1 230 (ix a1))) : Int32) (fun v3 =>
  if ib a1 3840 then
  jn (fun p6 : Unit =>
    Option.bind (d_453 n a1 a2 c) (fun v7 =>
    if ib v3 16 then
    lt (pI c 240 (ix v3) v7) (fun c9 =>
    some c9)
    else none))
  (fun j100 =>
  jn (fun p11 : Unit =>
    some c)
  (fun j291 =>
  jn (fun p12 : Unit =>
    if ib (v3 - 2) 16 then
    if ib (v3 - 1) 16 then
    Option.bind (d_390 n a2 (c.1 240 (ix (v3 - 2))) (c.1 240 (ix (v3 - 1))) c) (fun v15 =>
    if ib (v3 - 2) 16 then
    lt (pI c 240 (ix (v3 - 2)) v15) (fun c17 =>
    some c17)
    else none)
    else none
    else none)
  (fun j221 =>
  if (c.1 211 (ix a1)) = 14 then
    j100 ()
  else
  if (c.1 211 (ix a1)) = 15 then
    j100 ()
  else
  if (c.1 211 (ix a1)) = 16 then
    if ib a1 3840 then
    if ib (c.1 214 (ix a1)) 16 then
    if ib v3 16 then
    lt (pI c 240 (ix v3) (c.1 240 (ix (c.1 214 (ix a1))))) (fun c25 =>
    some c25)
    else none
    else none
    else none
  else
  if (c.1 211 (ix a1)) = 17 then
    if ib a1 3840 then
    if ib (v3 - 1) 16 then
    if ib (c.1 214 (ix a1)) 16 then
    lt (pI c 240 (ix (c.1 214 (ix a1))) (c.1 240 (ix (v3 - 1)))) (fun c31 =>
    some c31)
    else none
    else none
    else none
  else
  if (c.1 211 (ix a1)) = 18 then
    if ib a1 3840 then
    if ib a1 3840 then
    Option.bind (d_451 n (c.1 214 (ix a1)) (c.1 215 (ix a1))) (fun v36 =>
    if ib v36 1200 then
    if ib v3 16 then
    lt (pI c 240 (ix v3) (c.1 236 (ix v36))) (fun c39 =>
    some c39)
    else none
    else none)
    else none
    else none
  else
  if (c.1 211 (ix a1)) = 19 then
    j291 ()
  else
  if (c.1 211 (ix a1)) = 20 then
    if ib a1 3840 then
    if ib a1 3840 then
    lt (((8 * (c.1 214 (ix a1))) + (c.1 215 (ix a1))) : Int32) (fun v46 =>
    if ib v46 96 then
    Option.bind (d_422 n v46) (fun v49 =>
    if ib v49 1200 then
    if ib (v3 - (c.1 207 (ix v46))) 16 then
    lt (pI c 240 (ix (v3 - (c.1 207 (ix v46)))) (c.1 236 (ix v49))) (fun c52 =>
    some c52)
    else none
    else none)
    else none)
    else none
    else none
  else
  if (c.1 211 (ix a1)) = 21 then
    j291 ()
  else
  if (c.1 211 (ix a1)) = 22 then
    j221 ()
  else
  if (c.1 211 (ix a1)) = 23 then
    j221 ()
  else
  if (c.1 211 (ix a1)) = 24 then
    j221 ()
  else
  if (c.1 211 (ix a1)) = 25 then
    if ib (v3 - 1) 16 then
    if ib v3 16 then
    lt (pI c 240 (ix v3) (c.1 240 (ix (v3 - 1)))) (fun c61 =>
    some c61)
    else none
    else none
  else
  if (c.1 211 (ix a1)) = 26 then
    j291 ()
  else
  if (c.1 211 (ix a1)) = 27 then
    j291 ()
  else
  if (c.1 211 (ix a1)) = 28 then
    j291 ()
  else
  if (c.1 211 (ix a1)) = 29 then
    j291 ()
  else
  if (c.1 211 (ix a1)) = 30 then
    if ib a1 3840 then
    jn (fun p69 : cS =>
      some p69)
    (fun j290 =>
    if (c.1 214 (ix a1)) = a2 then
      if ib a1 3840 then
      if ib (v3 - 1) 16 then
      lt (pI c 240 (ix (v3 - 1)) (c.1 215 (ix a1))) (fun c72 =>
      j290 c72)
      else none
      else none
    else
      j290 c)
    else none
  else
  j291 ())))
  else none)
  else none
set_option maxRecDepth 100000 in
set_option maxHeartbeats 4000000 in
theorem sp_454 {F Lo n : Nat} {a1 : Int32} {a2 : Int32} {c y : cS} {w : cW} {K : cS → Prop} {Q : ((Option Value) ⊕ String) → List va_E → Prop} (hw : rOK fm w) (hF : 2 ≤ F) (hLo : 46 ≤ Lo)  (h : wp (d_454 n a1 a2 c) K) (hQ : ∀ r, K r → Q (.inl none) (hq false r y w)) : rs (rt_P sc fm) 454 F Lo 0 [(0, .ref 174), (1, .int a1), (2, .int a2)] [] (hq false c y w) Q := by
  unfold d_454 at h
  obtain ⟨lv, elv⟩ : ∃ lv : rx_L, lv = [(0, .ref 174), (1, .int a1), (2, .int a2)] := ⟨_, rfl⟩
  rw [← elv]
  have l0 : rx_ld lv 0 = some (.ref 174) := by rw [elv]; rfl
  have l1 : rx_ld lv 1 = some (.int a1) := by rw [elv]; rfl
  have l2 : rx_ld lv 2 = some (.int a2) := by rw [elv]; rfl
  refine rs_pure wi_454_0 rfl ?_
  refine rs_topi (v := 8) (by decide) ?_
  refine rs_aldn wi_454_2 l0 ?_
  refine dq_gr wi_454_3 wf_454_243 tf_174_70 ?_
  refine rs_ildn wi_454_6 l1 ?_
  obtain ⟨g1, h⟩ := wp_gd h
  refine dq_iald wi_454_7 t_230 g1 ?_
  refine rs_pure wi_454_8 rfl ?_
  obtain ⟨v3, e4, h⟩ := wp_lt h
  refine rs_topi e4 ?_
  refine dl_istn wi_454_9 rfl (fun lv l3 t2 => ?_)
  have l0 := t2 _ _ (by decide) (Or.inl rfl) l0
  have l1 := t2 _ _ (by decide) (Or.inl rfl) l1
  have l2 := t2 _ _ (by decide) (Or.inl rfl) l2
  refine rs_aldn wi_454_10 l0 ?_
  refine dq_gr wi_454_11 wf_454_185 tf_174_49 ?_
  refine rs_ildn wi_454_14 l1 ?_
  obtain ⟨g5, h⟩ := wp_gd h
  refine dq_iald wi_454_15 t_211 g5 ?_
  refine wp_jn (B := fun p6 : Unit => ∀ lv, rx_ld lv 0 = some (.ref 174) → rx_ld lv 1 = some (.int a1) → rx_ld lv 2 = some (.int a2) → rx_ld lv 3 = some (.int v3) → rs (rt_P sc fm) 454 F Lo 100 lv [] (hq false c y w) Q) h (fun p6 h lv l0 l1 l2 l3 => ?_) (fun j100 hj100 h => ?_)
  ·
    refine rs_aldn wi_454_100 l0 ?_
    refine dq_gr wi_454_101 wf_454_274 tf_174_89 ?_
    refine rs_ildn wi_454_104 l3 ?_
    refine rs_aldn wi_454_105 l0 ?_
    refine rs_ildn wi_454_106 l1 ?_
    refine rs_ildn wi_454_107 l2 ?_
    refine rs_V wi_454_108 wc_454_835 rfl (dq_isa tf_174_0 wa_15_453) (Nat.le_trans (by decide) hF) (ml_le wm_453 (Nat.le_trans (by decide) hLo)) rfl (sp_453 hw (Nat.le_trans (by decide : 0 ≤ 2 - 1) (Nat.sub_le_sub_right hF 1)) (ml_sub wm_453 (Nat.le_trans (by decide : 0 ≤ 46 - 24) (Nat.sub_le_sub_right hLo 24))) (wp_bind h) (fun v7 h => rs_back1 ?_))
    obtain ⟨g8, h⟩ := wp_gd h
    obtain ⟨c9, e10, h⟩ := wp_lt h
    refine dq_iast wi_454_111 t_240 g8 e10 ?_
    exact rs_vret wi_454_112 wr_454 (hQ c9 h)
  refine wp_jn (B := fun p11 : Unit => ∀ lv, rs (rt_P sc fm) 454 F Lo 291 lv [] (hq false c y w) Q) h (fun p11 h lv => ?_) (fun j291 hj291 h => ?_)
  ·
    exact rs_vret wi_454_291 wr_454 (hQ c h)
  refine wp_jn (B := fun p12 : Unit => ∀ lv, rx_ld lv 0 = some (.ref 174) → rx_ld lv 2 = some (.int a2) → rx_ld lv 3 = some (.int v3) → rs (rt_P sc fm) 454 F Lo 221 lv [] (hq false c y w) Q) h (fun p12 h lv l0 l2 l3 => ?_) (fun j221 hj221 h => ?_)
  ·
    refine rs_aldn wi_454_221 l0 ?_
    refine dq_gr wi_454_222 wf_454_274 tf_174_89 ?_
    refine rs_ildn wi_454_225 l3 ?_
    refine rs_pure wi_454_226 rfl ?_
    refine rs_topi (v := 2) (by decide) ?_
    refine rs_pure wi_454_227 rfl ?_
    refine rs_aldn wi_454_228 l0 ?_
    refine rs_ildn wi_454_229 l2 ?_
    refine rs_aldn wi_454_230 l0 ?_
    refine dq_gr wi_454_231 wf_454_274 tf_174_89 ?_
    refine rs_ildn wi_454_234 l3 ?_
    refine rs_pure wi_454_235 rfl ?_
    refine rs_topi (v := 2) (by decide) ?_
    refine rs_pure wi_454_236 rfl ?_
    obtain ⟨g13, h⟩ := wp_gd h
    refine dq_iald wi_454_237 t_240 g13 ?_
    refine rs_aldn wi_454_238 l0 ?_
    refine dq_gr wi_454_239 wf_454_274 tf_174_89 ?_
    refine rs_ildn wi_454_242 l3 ?_
    refine rs_pure wi_454_243 rfl ?_
    refine rs_topi (v := 1) (by decide) ?_
    refine rs_pure wi_454_244 rfl ?_
    obtain ⟨g14, h⟩ := wp_gd h
    refine dq_iald wi_454_245 t_240 g14 ?_
    refine rs_V wi_454_246 wc_454_727 rfl (dq_isa tf_174_0 wa_15_390) (Nat.le_trans (by decide) hF) (ml_le wm_390 (Nat.le_trans (by decide) hLo)) rfl (sp_390 hw (Nat.le_trans (by decide : 1 ≤ 2 - 1) (Nat.sub_le_sub_right hF 1)) (ml_sub wm_390 (Nat.le_trans (by decide : 23 ≤ 46 - 23) (Nat.sub_le_sub_right hLo 23))) (wp_bind h) (fun v15 h => rs_back1 ?_))
    obtain ⟨g16, h⟩ := wp_gd h
    obtain ⟨c17, e18, h⟩ := wp_lt h
    refine dq_iast wi_454_249 t_240 g16 e18 ?_
    exact rs_vret wi_454_250 wr_454 (hQ c17 h)
  by_cases q19 : (c.1 211 (ix a1)) = 14
  ·
    have h := wp_pos h q19
    refine rs_tsk (tg := 100) (off := 84) (v := 14) wi_454_16 q19 (by decide) (by decide) ⟨by decide, by decide⟩ ?_
    exact hj100 _ h _ l0 l1 l2 l3
  have h := wp_neg h q19
  by_cases q20 : (c.1 211 (ix a1)) = 15
  ·
    have h := wp_pos h q20
    refine rs_tsk (tg := 100) (off := 84) (v := 15) wi_454_16 q20 (by decide) (by decide) ⟨by decide, by decide⟩ ?_
    exact hj100 _ h _ l0 l1 l2 l3
  have h := wp_neg h q20
  by_cases q21 : (c.1 211 (ix a1)) = 16
  ·
    have h := wp_pos h q21
    refine rs_tsk (tg := 113) (off := 97) (v := 16) wi_454_16 q21 (by decide) (by decide) ⟨by decide, by decide⟩ ?_
    refine rs_aldn wi_454_113 l0 ?_
    refine dq_gr wi_454_114 wf_454_274 tf_174_89 ?_
    refine rs_ildn wi_454_117 l3 ?_
    refine rs_aldn wi_454_118 l0 ?_
    refine dq_gr wi_454_119 wf_454_274 tf_174_89 ?_
    refine rs_aldn wi_454_122 l0 ?_
    refine dq_gr wi_454_123 wf_454_194 tf_174_52 ?_
    refine rs_ildn wi_454_126 l1 ?_
    obtain ⟨g22, h⟩ := wp_gd h
    refine dq_iald wi_454_127 t_214 g22 ?_
    obtain ⟨g23, h⟩ := wp_gd h
    refine dq_iald wi_454_128 t_240 g23 ?_
    obtain ⟨g24, h⟩ := wp_gd h
    obtain ⟨c25, e26, h⟩ := wp_lt h
    refine dq_iast wi_454_129 t_240 g24 e26 ?_
    exact rs_vret wi_454_130 wr_454 (hQ c25 h)
  have h := wp_neg h q21
  by_cases q27 : (c.1 211 (ix a1)) = 17
  ·
    have h := wp_pos h q27
    refine rs_tsk (tg := 131) (off := 115) (v := 17) wi_454_16 q27 (by decide) (by decide) ⟨by decide, by decide⟩ ?_
    refine rs_aldn wi_454_131 l0 ?_
    refine dq_gr wi_454_132 wf_454_274 tf_174_89 ?_
    refine rs_aldn wi_454_135 l0 ?_
    refine dq_gr wi_454_136 wf_454_194 tf_174_52 ?_
    refine rs_ildn wi_454_139 l1 ?_
    obtain ⟨g28, h⟩ := wp_gd h
    refine dq_iald wi_454_140 t_214 g28 ?_
    refine rs_aldn wi_454_141 l0 ?_
    refine dq_gr wi_454_142 wf_454_274 tf_174_89 ?_
    refine rs_ildn wi_454_145 l3 ?_
    refine rs_pure wi_454_146 rfl ?_
    refine rs_topi (v := 1) (by decide) ?_
    refine rs_pure wi_454_147 rfl ?_
    obtain ⟨g29, h⟩ := wp_gd h
    refine dq_iald wi_454_148 t_240 g29 ?_
    obtain ⟨g30, h⟩ := wp_gd h
    obtain ⟨c31, e32, h⟩ := wp_lt h
    refine dq_iast wi_454_149 t_240 g30 e32 ?_
    exact rs_vret wi_454_150 wr_454 (hQ c31 h)
  have h := wp_neg h q27
  by_cases q33 : (c.1 211 (ix a1)) = 18
  ·
    have h := wp_pos h q33
    refine rs_tsk (tg := 151) (off := 135) (v := 18) wi_454_16 q33 (by decide) (by decide) ⟨by decide, by decide⟩ ?_
    refine rs_aldn wi_454_151 l0 ?_
    refine dq_gr wi_454_152 wf_454_274 tf_174_89 ?_
    refine rs_ildn wi_454_155 l3 ?_
    refine rs_aldn wi_454_156 l0 ?_
    refine dq_gr wi_454_157 wf_454_261 tf_174_85 ?_
    refine rs_aldn wi_454_160 l0 ?_
    refine dq_gr wi_454_161 wf_454_194 tf_174_52 ?_
    refine rs_ildn wi_454_164 l1 ?_
    obtain ⟨g34, h⟩ := wp_gd h
    refine dq_iald wi_454_165 t_214 g34 ?_
    refine rs_aldn wi_454_166 l0 ?_
    refine dq_gr wi_454_167 wf_454_197 tf_174_53 ?_
    refine rs_ildn wi_454_170 l1 ?_
    obtain ⟨g35, h⟩ := wp_gd h
    refine dq_iald wi_454_171 t_215 g35 ?_
    refine rs_S wi_454_172 wc_454_838 (Or.inl rfl) rfl (Nat.le_trans (by decide) hF) (ml_le wm_451 (Nat.le_trans (by decide) hLo)) rfl (sp_451 (Nat.le_trans (by decide : 0 ≤ 2 - 1) (Nat.sub_le_sub_right hF 1)) (ml_sub wm_451 (Nat.le_trans (by decide : 0 ≤ 46 - 21) (Nat.sub_le_sub_right hLo 21))) (wp_bind h) (fun v36 h => rs_back1 ?_))
    obtain ⟨g37, h⟩ := wp_gd h
    refine dq_iald wi_454_175 t_236 g37 ?_
    obtain ⟨g38, h⟩ := wp_gd h
    obtain ⟨c39, e40, h⟩ := wp_lt h
    refine dq_iast wi_454_176 t_240 g38 e40 ?_
    exact rs_vret wi_454_177 wr_454 (hQ c39 h)
  have h := wp_neg h q33
  by_cases q41 : (c.1 211 (ix a1)) = 19
  ·
    have h := wp_pos h q41
    refine rs_tsk (tg := 291) (off := 275) (v := 19) wi_454_16 q41 (by decide) (by decide) ⟨by decide, by decide⟩ ?_
    exact hj291 _ h _
  have h := wp_neg h q41
  by_cases q42 : (c.1 211 (ix a1)) = 20
  ·
    have h := wp_pos h q42
    refine rs_tsk (tg := 178) (off := 162) (v := 20) wi_454_16 q42 (by decide) (by decide) ⟨by decide, by decide⟩ ?_
    refine rs_pure wi_454_178 rfl ?_
    refine rs_topi (v := 8) (by decide) ?_
    refine rs_aldn wi_454_180 l0 ?_
    refine dq_gr wi_454_181 wf_454_194 tf_174_52 ?_
    refine rs_ildn wi_454_184 l1 ?_
    obtain ⟨g43, h⟩ := wp_gd h
    refine dq_iald wi_454_185 t_214 g43 ?_
    refine rs_pure wi_454_186 rfl ?_
    refine rs_aldn wi_454_187 l0 ?_
    refine dq_gr wi_454_188 wf_454_197 tf_174_53 ?_
    refine rs_ildn wi_454_191 l1 ?_
    obtain ⟨g44, h⟩ := wp_gd h
    refine dq_iald wi_454_192 t_215 g44 ?_
    refine rs_pure wi_454_193 rfl ?_
    obtain ⟨v46, e47, h⟩ := wp_lt h
    refine rs_topi e47 ?_
    refine dl_ist wi_454_194 rfl (fun lv l4 t45 => ?_)
    have l0 := t45 _ _ (by decide) (Or.inl rfl) l0
    have l3 := t45 _ _ (by decide) (Or.inl rfl) l3
    refine rs_aldn wi_454_196 l0 ?_
    refine dq_gr wi_454_197 wf_454_274 tf_174_89 ?_
    refine rs_ildn wi_454_200 l3 ?_
    refine rs_aldn wi_454_201 l0 ?_
    refine dq_gr wi_454_202 wf_454_173 tf_174_45 ?_
    refine rs_ild wi_454_205 l4 ?_
    obtain ⟨g48, h⟩ := wp_gd h
    refine dq_iald wi_454_207 t_207 g48 ?_
    refine rs_pure wi_454_208 rfl ?_
    refine rs_aldn wi_454_209 l0 ?_
    refine dq_gr wi_454_210 wf_454_261 tf_174_85 ?_
    refine rs_ild wi_454_213 l4 ?_
    refine rs_S wi_454_215 wc_454_661 (Or.inl rfl) rfl (Nat.le_trans (by decide) hF) (ml_le wm_422 (Nat.le_trans (by decide) hLo)) rfl (sp_422 (Nat.le_trans (by decide : 0 ≤ 2 - 1) (Nat.sub_le_sub_right hF 1)) (ml_sub wm_422 (Nat.le_trans (by decide : 0 ≤ 46 - 20) (Nat.sub_le_sub_right hLo 20))) (wp_bind h) (fun v49 h => rs_back1 ?_))
    obtain ⟨g50, h⟩ := wp_gd h
    refine dq_iald wi_454_218 t_236 g50 ?_
    obtain ⟨g51, h⟩ := wp_gd h
    obtain ⟨c52, e53, h⟩ := wp_lt h
    refine dq_iast wi_454_219 t_240 g51 e53 ?_
    exact rs_vret wi_454_220 wr_454 (hQ c52 h)
  have h := wp_neg h q42
  by_cases q54 : (c.1 211 (ix a1)) = 21
  ·
    have h := wp_pos h q54
    refine rs_tsk (tg := 291) (off := 275) (v := 21) wi_454_16 q54 (by decide) (by decide) ⟨by decide, by decide⟩ ?_
    exact hj291 _ h _
  have h := wp_neg h q54
  by_cases q55 : (c.1 211 (ix a1)) = 22
  ·
    have h := wp_pos h q55
    refine rs_tsk (tg := 221) (off := 205) (v := 22) wi_454_16 q55 (by decide) (by decide) ⟨by decide, by decide⟩ ?_
    exact hj221 _ h _ l0 l2 l3
  have h := wp_neg h q55
  by_cases q56 : (c.1 211 (ix a1)) = 23
  ·
    have h := wp_pos h q56
    refine rs_tsk (tg := 221) (off := 205) (v := 23) wi_454_16 q56 (by decide) (by decide) ⟨by decide, by decide⟩ ?_
    exact hj221 _ h _ l0 l2 l3
  have h := wp_neg h q56
  by_cases q57 : (c.1 211 (ix a1)) = 24
  ·
    have h := wp_pos h q57
    refine rs_tsk (tg := 221) (off := 205) (v := 24) wi_454_16 q57 (by decide) (by decide) ⟨by decide, by decide⟩ ?_
    exact hj221 _ h _ l0 l2 l3
  have h := wp_neg h q57
  by_cases q58 : (c.1 211 (ix a1)) = 25
  ·
    have h := wp_pos h q58
    refine rs_tsk (tg := 251) (off := 235) (v := 25) wi_454_16 q58 (by decide) (by decide) ⟨by decide, by decide⟩ ?_
    refine rs_aldn wi_454_251 l0 ?_
    refine dq_gr wi_454_252 wf_454_274 tf_174_89 ?_
    refine rs_ildn wi_454_255 l3 ?_
    refine rs_aldn wi_454_256 l0 ?_
    refine dq_gr wi_454_257 wf_454_274 tf_174_89 ?_
    refine rs_ildn wi_454_260 l3 ?_
    refine rs_pure wi_454_261 rfl ?_
    refine rs_topi (v := 1) (by decide) ?_
    refine rs_pure wi_454_262 rfl ?_
    obtain ⟨g59, h⟩ := wp_gd h
    refine dq_iald wi_454_263 t_240 g59 ?_
    obtain ⟨g60, h⟩ := wp_gd h
    obtain ⟨c61, e62, h⟩ := wp_lt h
    refine dq_iast wi_454_264 t_240 g60 e62 ?_
    exact rs_vret wi_454_265 wr_454 (hQ c61 h)
  have h := wp_neg h q58
  by_cases q63 : (c.1 211 (ix a1)) = 26
  ·
    have h := wp_pos h q63
    refine rs_tsk (tg := 291) (off := 275) (v := 26) wi_454_16 q63 (by decide) (by decide) ⟨by decide, by decide⟩ ?_
    exact hj291 _ h _
  have h := wp_neg h q63
  by_cases q64 : (c.1 211 (ix a1)) = 27
  ·
    have h := wp_pos h q64
    refine rs_tsk (tg := 291) (off := 275) (v := 27) wi_454_16 q64 (by decide) (by decide) ⟨by decide, by decide⟩ ?_
    exact hj291 _ h _
  have h := wp_neg h q64
  by_cases q65 : (c.1 211 (ix a1)) = 28
  ·
    have h := wp_pos h q65
    refine rs_tsk (tg := 291) (off := 275) (v := 28) wi_454_16 q65 (by decide) (by decide) ⟨by decide, by decide⟩ ?_
    exact hj291 _ h _
  have h := wp_neg h q65
  by_cases q66 : (c.1 211 (ix a1)) = 29
  ·
    have h := wp_pos h q66
    refine rs_tsk (tg := 291) (off := 275) (v := 29) wi_454_16 q66 (by decide) (by decide) ⟨by decide, by decide⟩ ?_
    exact hj291 _ h _
  have h := wp_neg h q66
  by_cases q67 : (c.1 211 (ix a1)) = 30
  ·
    have h := wp_pos h q67
    refine rs_tsk (tg := 266) (off := 250) (v := 30) wi_454_16 q67 (by decide) (by decide) ⟨by decide, by decide⟩ ?_
    refine rs_aldn wi_454_266 l0 ?_
    refine dq_gr wi_454_267 wf_454_194 tf_174_52 ?_
    refine rs_ildn wi_454_270 l1 ?_
    obtain ⟨g68, h⟩ := wp_gd h
    refine dq_iald wi_454_271 t_214 g68 ?_
    refine rs_ildn wi_454_272 l2 ?_
    refine wp_jn (B := fun p69 : cS => ∀ lv, rs (rt_P sc fm) 454 F Lo 290 lv [] (hq false p69 y w) Q) h (fun p69 h lv => ?_) (fun j290 hj290 h => ?_)
    ·
      exact rs_vret wi_454_290 wr_454 (hQ p69 h)
    refine rs_icne (tg := 290) wi_454_273 ⟨by decide, by decide⟩ (fun q => ?_) (fun q => ?_)
    ·
      have h := wp_neg h q
      exact hj290 _ h _
    ·
      have h := wp_pos h q
      refine rs_aldn wi_454_276 l0 ?_
      refine dq_gr wi_454_277 wf_454_274 tf_174_89 ?_
      refine rs_ildn wi_454_280 l3 ?_
      refine rs_pure wi_454_281 rfl ?_
      refine rs_topi (v := 1) (by decide) ?_
      refine rs_pure wi_454_282 rfl ?_
      refine rs_aldn wi_454_283 l0 ?_
      refine dq_gr wi_454_284 wf_454_197 tf_174_53 ?_
      refine rs_ildn wi_454_287 l1 ?_
      obtain ⟨g70, h⟩ := wp_gd h
      refine dq_iald wi_454_288 t_215 g70 ?_
      obtain ⟨g71, h⟩ := wp_gd h
      obtain ⟨c72, e73, h⟩ := wp_lt h
      refine dq_iast wi_454_289 t_240 g71 e73 ?_
      exact hj290 _ h _
  have h := wp_neg h q67
  refine rs_tsd (tg := 291) wi_454_16 (rz_sw fun k k1 k2 => by
    have kk : k = 14 ∨ k = 15 ∨ k = 16 ∨ k = 17 ∨ k = 18 ∨ k = 19 ∨ k = 20 ∨ k = 21 ∨ k = 22 ∨ k = 23 ∨ k = 24 ∨ k = 25 ∨ k = 26 ∨ k = 27 ∨ k = 28 ∨ k = 29 ∨ k = 30 := by omega
    rcases kk with rfl | rfl | rfl | rfl | rfl | rfl | rfl | rfl | rfl | rfl | rfl | rfl | rfl | rfl | rfl | rfl | rfl
    · exact q19
    · exact q20
    · exact q21
    · exact q27
    · exact q33
    · exact q41
    · exact q42
    · exact q54
    · exact q55
    · exact q56
    · exact q57
    · exact q58
    · exact q63
    · exact q64
    · exact q65
    · exact q66
    · exact q67
    ) ⟨by decide, by decide⟩ ?_
  exact hj291 _ h _
set_option maxRecDepth 100000 in
theorem wa_15_452 : rz_cn 15 (rx_yn (rt_P sc fm) 452).cls = true := (by decide +kernel : rz_cn 15 (rt_yn 452).cls = true)
set_option maxRecDepth 100000 in
theorem wa_15_454 : rz_cn 15 (rx_yn (rt_P sc fm) 454).cls = true := (by decide +kernel : rz_cn 15 (rt_yn 454).cls = true)
set_option maxRecDepth 100000 in
theorem wa_15_455 : rz_cn 15 (rx_yn (rt_P sc fm) 455).cls = true := (by decide +kernel : rz_cn 15 (rt_yn 455).cls = true)
set_option maxRecDepth 100000 in
theorem wc_456_730 : rx_ct (rt_P sc fm) 456 730 = some (0, 391, 3) := (by decide +kernel : rt_ct 456 730 = some (0, 391, 3))
set_option maxRecDepth 100000 in
theorem wc_456_844 : rx_ct (rt_P sc fm) 456 844 = some (0, 452, 2) := (by decide +kernel : rt_ct 456 844 = some (0, 452, 2))
set_option maxRecDepth 100000 in
theorem wc_456_847 : rx_ct (rt_P sc fm) 456 847 = some (0, 455, 2) := (by decide +kernel : rt_ct 456 847 = some (0, 455, 2))
set_option maxRecDepth 100000 in
theorem wc_456_850 : rx_ct (rt_P sc fm) 456 850 = some (0, 454, 2) := (by decide +kernel : rt_ct 456 850 = some (0, 454, 2))
set_option maxRecDepth 100000 in
theorem wf_456_182 : rx_ft (rt_P sc fm) 456 182 = some (15, 48) := (by decide +kernel : rt_ft 456 182 = some (15, 48))
set_option maxRecDepth 100000 in
theorem wf_456_185 : rx_ft (rt_P sc fm) 456 185 = some (15, 49) := (by decide +kernel : rt_ft 456 185 = some (15, 49))
set_option maxRecDepth 100000 in
theorem wf_456_194 : rx_ft (rt_P sc fm) 456 194 = some (15, 52) := (by decide +kernel : rt_ft 456 194 = some (15, 52))
set_option maxRecDepth 100000 in
theorem wf_456_197 : rx_ft (rt_P sc fm) 456 197 = some (15, 53) := (by decide +kernel : rt_ft 456 197 = some (15, 53))
set_option maxRecDepth 100000 in
theorem wf_456_200 : rx_ft (rt_P sc fm) 456 200 = some (15, 54) := (by decide +kernel : rt_ft 456 200 = some (15, 54))
set_option maxRecDepth 100000 in
theorem wf_456_243 : rx_ft (rt_P sc fm) 456 243 = some (15, 70) := (by decide +kernel : rt_ft 456 243 = some (15, 70))
set_option maxRecDepth 100000 in
theorem wf_456_268 : rx_ft (rt_P sc fm) 456 268 = some (15, 87) := (by decide +kernel : rt_ft 456 268 = some (15, 87))
set_option maxRecDepth 100000 in
theorem wf_456_271 : rx_ft (rt_P sc fm) 456 271 = some (15, 88) := (by decide +kernel : rt_ft 456 271 = some (15, 88))
set_option maxRecDepth 100000 in
theorem wf_456_274 : rx_ft (rt_P sc fm) 456 274 = some (15, 89) := (by decide +kernel : rt_ft 456 274 = some (15, 89))
set_option maxRecDepth 100000 in
theorem wf_456_841 : rx_ft (rt_P sc fm) 456 841 = some (15, 90) := (by decide +kernel : rt_ft 456 841 = some (15, 90))
theorem wi_456_0 : ri (rt_P sc fm) 456 0 (.bipush 40) (2) := ri_of (by decide +kernel) rfl
theorem wi_456_10 : ri (rt_P sc fm) 456 10 (.aload_n 0) (11) := ri_of (by decide +kernel) rfl
theorem wi_456_100 : ri (rt_P sc fm) 456 100 (.if_icmp .ge 29) (103) := ri_of (by decide +kernel) rfl
theorem wi_456_103 : ri (rt_P sc fm) 456 103 (.aload_n 0) (104) := ri_of (by decide +kernel) rfl
theorem wi_456_104 : ri (rt_P sc fm) 456 104 (.getfield 274) (107) := ri_of (by decide +kernel) rfl
theorem wi_456_107 : ri (rt_P sc fm) 456 107 (.iload 5) (109) := ri_of (by decide +kernel) rfl
theorem wi_456_109 : ri (rt_P sc fm) 456 109 (.aload_n 0) (110) := ri_of (by decide +kernel) rfl
theorem wi_456_11 : ri (rt_P sc fm) 456 11 (.getfield 182) (14) := ri_of (by decide +kernel) rfl
theorem wi_456_110 : ri (rt_P sc fm) 456 110 (.getfield 268) (113) := ri_of (by decide +kernel) rfl
theorem wi_456_113 : ri (rt_P sc fm) 456 113 (.bipush 16) (115) := ri_of (by decide +kernel) rfl
theorem wi_456_115 : ri (rt_P sc fm) 456 115 (.iload 4) (117) := ri_of (by decide +kernel) rfl
theorem wi_456_117 : ri (rt_P sc fm) 456 117 (.imul) (118) := ri_of (by decide +kernel) rfl
theorem wi_456_118 : ri (rt_P sc fm) 456 118 (.iload 5) (120) := ri_of (by decide +kernel) rfl
theorem wi_456_120 : ri (rt_P sc fm) 456 120 (.iadd) (121) := ri_of (by decide +kernel) rfl
theorem wi_456_121 : ri (rt_P sc fm) 456 121 (.iaload) (122) := ri_of (by decide +kernel) rfl
theorem wi_456_122 : ri (rt_P sc fm) 456 122 (.iastore) (123) := ri_of (by decide +kernel) rfl
theorem wi_456_123 : ri (rt_P sc fm) 456 123 (.iinc 5 1) (126) := ri_of (by decide +kernel) rfl
theorem wi_456_126 : ri (rt_P sc fm) 456 126 (.goto (-30)) (129) := ri_of (by decide +kernel) rfl
theorem wi_456_129 : ri (rt_P sc fm) 456 129 (.aload_n 0) (130) := ri_of (by decide +kernel) rfl
theorem wi_456_130 : ri (rt_P sc fm) 456 130 (.iload 4) (132) := ri_of (by decide +kernel) rfl
theorem wi_456_132 : ri (rt_P sc fm) 456 132 (.iload_n 2) (133) := ri_of (by decide +kernel) rfl
theorem wi_456_133 : ri (rt_P sc fm) 456 133 (.invokevirtual 850) (136) := ri_of (by decide +kernel) rfl
theorem wi_456_136 : ri (rt_P sc fm) 456 136 (.aload_n 0) (137) := ri_of (by decide +kernel) rfl
theorem wi_456_137 : ri (rt_P sc fm) 456 137 (.getfield 185) (140) := ri_of (by decide +kernel) rfl
theorem wi_456_14 : ri (rt_P sc fm) 456 14 (.iload_n 1) (15) := ri_of (by decide +kernel) rfl
theorem wi_456_140 : ri (rt_P sc fm) 456 140 (.iload 4) (142) := ri_of (by decide +kernel) rfl
theorem wi_456_142 : ri (rt_P sc fm) 456 142 (.iaload) (143) := ri_of (by decide +kernel) rfl
theorem wi_456_143 : ri (rt_P sc fm) 456 143 (.bipush 21) (145) := ri_of (by decide +kernel) rfl
theorem wi_456_145 : ri (rt_P sc fm) 456 145 (.if_icmp .eq 24) (148) := ri_of (by decide +kernel) rfl
theorem wi_456_148 : ri (rt_P sc fm) 456 148 (.aload_n 0) (149) := ri_of (by decide +kernel) rfl
theorem wi_456_149 : ri (rt_P sc fm) 456 149 (.getfield 185) (152) := ri_of (by decide +kernel) rfl
theorem wi_456_15 : ri (rt_P sc fm) 456 15 (.iaload) (16) := ri_of (by decide +kernel) rfl
theorem wi_456_152 : ri (rt_P sc fm) 456 152 (.iload 4) (154) := ri_of (by decide +kernel) rfl
theorem wi_456_154 : ri (rt_P sc fm) 456 154 (.iaload) (155) := ri_of (by decide +kernel) rfl
theorem wi_456_155 : ri (rt_P sc fm) 456 155 (.bipush 27) (157) := ri_of (by decide +kernel) rfl
theorem wi_456_157 : ri (rt_P sc fm) 456 157 (.if_icmp .eq 12) (160) := ri_of (by decide +kernel) rfl
theorem wi_456_16 : ri (rt_P sc fm) 456 16 (.if_icmp .ge 19) (19) := ri_of (by decide +kernel) rfl
theorem wi_456_160 : ri (rt_P sc fm) 456 160 (.aload_n 0) (161) := ri_of (by decide +kernel) rfl
theorem wi_456_161 : ri (rt_P sc fm) 456 161 (.iload 4) (163) := ri_of (by decide +kernel) rfl
theorem wi_456_163 : ri (rt_P sc fm) 456 163 (.iconst 1) (164) := ri_of (by decide +kernel) rfl
theorem wi_456_164 : ri (rt_P sc fm) 456 164 (.iadd) (165) := ri_of (by decide +kernel) rfl
theorem wi_456_165 : ri (rt_P sc fm) 456 165 (.iload_n 2) (166) := ri_of (by decide +kernel) rfl
theorem wi_456_166 : ri (rt_P sc fm) 456 166 (.invokevirtual 847) (169) := ri_of (by decide +kernel) rfl
theorem wi_456_169 : ri (rt_P sc fm) 456 169 (.aload_n 0) (170) := ri_of (by decide +kernel) rfl
theorem wi_456_170 : ri (rt_P sc fm) 456 170 (.getfield 200) (173) := ri_of (by decide +kernel) rfl
theorem wi_456_173 : ri (rt_P sc fm) 456 173 (.iload 4) (175) := ri_of (by decide +kernel) rfl
theorem wi_456_175 : ri (rt_P sc fm) 456 175 (.iaload) (176) := ri_of (by decide +kernel) rfl
theorem wi_456_176 : ri (rt_P sc fm) 456 176 (.ifCond .ge 6) (179) := ri_of (by decide +kernel) rfl
theorem wi_456_179 : ri (rt_P sc fm) 456 179 (.goto 80) (182) := ri_of (by decide +kernel) rfl
theorem wi_456_182 : ri (rt_P sc fm) 456 182 (.bipush 8) (184) := ri_of (by decide +kernel) rfl
theorem wi_456_184 : ri (rt_P sc fm) 456 184 (.aload_n 0) (185) := ri_of (by decide +kernel) rfl
theorem wi_456_185 : ri (rt_P sc fm) 456 185 (.getfield 243) (188) := ri_of (by decide +kernel) rfl
theorem wi_456_188 : ri (rt_P sc fm) 456 188 (.iload 4) (190) := ri_of (by decide +kernel) rfl
theorem wi_456_19 : ri (rt_P sc fm) 456 19 (.aload_n 0) (20) := ri_of (by decide +kernel) rfl
theorem wi_456_190 : ri (rt_P sc fm) 456 190 (.iaload) (191) := ri_of (by decide +kernel) rfl
theorem wi_456_191 : ri (rt_P sc fm) 456 191 (.iadd) (192) := ri_of (by decide +kernel) rfl
theorem wi_456_192 : ri (rt_P sc fm) 456 192 (.iconst 1) (193) := ri_of (by decide +kernel) rfl
theorem wi_456_193 : ri (rt_P sc fm) 456 193 (.isub) (194) := ri_of (by decide +kernel) rfl
theorem wi_456_194 : ri (rt_P sc fm) 456 194 (.istore 5) (196) := ri_of (by decide +kernel) rfl
theorem wi_456_196 : ri (rt_P sc fm) 456 196 (.aload_n 0) (197) := ri_of (by decide +kernel) rfl
theorem wi_456_197 : ri (rt_P sc fm) 456 197 (.getfield 185) (200) := ri_of (by decide +kernel) rfl
theorem wi_456_2 : ri (rt_P sc fm) 456 2 (.iload_n 1) (3) := ri_of (by decide +kernel) rfl
theorem wi_456_20 : ri (rt_P sc fm) 456 20 (.getfield 271) (23) := ri_of (by decide +kernel) rfl
theorem wi_456_200 : ri (rt_P sc fm) 456 200 (.iload 4) (202) := ri_of (by decide +kernel) rfl
theorem wi_456_202 : ri (rt_P sc fm) 456 202 (.iaload) (203) := ri_of (by decide +kernel) rfl
theorem wi_456_203 : ri (rt_P sc fm) 456 203 (.bipush 29) (205) := ri_of (by decide +kernel) rfl
theorem wi_456_205 : ri (rt_P sc fm) 456 205 (.if_icmp .ne 40) (208) := ri_of (by decide +kernel) rfl
theorem wi_456_208 : ri (rt_P sc fm) 456 208 (.aload_n 0) (209) := ri_of (by decide +kernel) rfl
theorem wi_456_209 : ri (rt_P sc fm) 456 209 (.getfield 194) (212) := ri_of (by decide +kernel) rfl
theorem wi_456_212 : ri (rt_P sc fm) 456 212 (.iload 4) (214) := ri_of (by decide +kernel) rfl
theorem wi_456_214 : ri (rt_P sc fm) 456 214 (.iaload) (215) := ri_of (by decide +kernel) rfl
theorem wi_456_215 : ri (rt_P sc fm) 456 215 (.iload_n 2) (216) := ri_of (by decide +kernel) rfl
theorem wi_456_216 : ri (rt_P sc fm) 456 216 (.if_icmp .ne 29) (219) := ri_of (by decide +kernel) rfl
theorem wi_456_219 : ri (rt_P sc fm) 456 219 (.aload_n 0) (220) := ri_of (by decide +kernel) rfl
theorem wi_456_220 : ri (rt_P sc fm) 456 220 (.getfield 274) (223) := ri_of (by decide +kernel) rfl
theorem wi_456_223 : ri (rt_P sc fm) 456 223 (.iload 5) (225) := ri_of (by decide +kernel) rfl
theorem wi_456_225 : ri (rt_P sc fm) 456 225 (.aload_n 0) (226) := ri_of (by decide +kernel) rfl
theorem wi_456_226 : ri (rt_P sc fm) 456 226 (.iload_n 2) (227) := ri_of (by decide +kernel) rfl
theorem wi_456_227 : ri (rt_P sc fm) 456 227 (.aload_n 0) (228) := ri_of (by decide +kernel) rfl
theorem wi_456_228 : ri (rt_P sc fm) 456 228 (.getfield 274) (231) := ri_of (by decide +kernel) rfl
theorem wi_456_23 : ri (rt_P sc fm) 456 23 (.iload_n 3) (24) := ri_of (by decide +kernel) rfl
theorem wi_456_231 : ri (rt_P sc fm) 456 231 (.iload 5) (233) := ri_of (by decide +kernel) rfl
theorem wi_456_233 : ri (rt_P sc fm) 456 233 (.iaload) (234) := ri_of (by decide +kernel) rfl
theorem wi_456_234 : ri (rt_P sc fm) 456 234 (.aload_n 0) (235) := ri_of (by decide +kernel) rfl
theorem wi_456_235 : ri (rt_P sc fm) 456 235 (.getfield 197) (238) := ri_of (by decide +kernel) rfl
theorem wi_456_238 : ri (rt_P sc fm) 456 238 (.iload 4) (240) := ri_of (by decide +kernel) rfl
theorem wi_456_24 : ri (rt_P sc fm) 456 24 (.iload 4) (26) := ri_of (by decide +kernel) rfl
theorem wi_456_240 : ri (rt_P sc fm) 456 240 (.iaload) (241) := ri_of (by decide +kernel) rfl
theorem wi_456_241 : ri (rt_P sc fm) 456 241 (.invokevirtual 730) (244) := ri_of (by decide +kernel) rfl
theorem wi_456_244 : ri (rt_P sc fm) 456 244 (.iastore) (245) := ri_of (by decide +kernel) rfl
theorem wi_456_245 : ri (rt_P sc fm) 456 245 (.aload_n 0) (246) := ri_of (by decide +kernel) rfl
theorem wi_456_246 : ri (rt_P sc fm) 456 246 (.iload_n 3) (247) := ri_of (by decide +kernel) rfl
theorem wi_456_247 : ri (rt_P sc fm) 456 247 (.aload_n 0) (248) := ri_of (by decide +kernel) rfl
theorem wi_456_248 : ri (rt_P sc fm) 456 248 (.getfield 200) (251) := ri_of (by decide +kernel) rfl
theorem wi_456_251 : ri (rt_P sc fm) 456 251 (.iload 4) (253) := ri_of (by decide +kernel) rfl
theorem wi_456_253 : ri (rt_P sc fm) 456 253 (.iaload) (254) := ri_of (by decide +kernel) rfl
theorem wi_456_254 : ri (rt_P sc fm) 456 254 (.iadd) (255) := ri_of (by decide +kernel) rfl
theorem wi_456_255 : ri (rt_P sc fm) 456 255 (.iload_n 2) (256) := ri_of (by decide +kernel) rfl
theorem wi_456_256 : ri (rt_P sc fm) 456 256 (.invokevirtual 847) (259) := ri_of (by decide +kernel) rfl
theorem wi_456_259 : ri (rt_P sc fm) 456 259 (.iinc 4 1) (262) := ri_of (by decide +kernel) rfl
theorem wi_456_26 : ri (rt_P sc fm) 456 26 (.iadd) (27) := ri_of (by decide +kernel) rfl
theorem wi_456_262 : ri (rt_P sc fm) 456 262 (.goto (-195)) (265) := ri_of (by decide +kernel) rfl
theorem wi_456_265 : ri (rt_P sc fm) 456 265 (.goto (-213)) (268) := ri_of (by decide +kernel) rfl
theorem wi_456_268 : ri (rt_P sc fm) 456 268 (.return_) (269) := ri_of (by decide +kernel) rfl
theorem wi_456_27 : ri (rt_P sc fm) 456 27 (.iconst 0) (28) := ri_of (by decide +kernel) rfl
theorem wi_456_28 : ri (rt_P sc fm) 456 28 (.bastore) (29) := ri_of (by decide +kernel) rfl
theorem wi_456_29 : ri (rt_P sc fm) 456 29 (.iinc 4 1) (32) := ri_of (by decide +kernel) rfl
theorem wi_456_3 : ri (rt_P sc fm) 456 3 (.imul) (4) := ri_of (by decide +kernel) rfl
theorem wi_456_32 : ri (rt_P sc fm) 456 32 (.goto (-24)) (35) := ri_of (by decide +kernel) rfl
theorem wi_456_35 : ri (rt_P sc fm) 456 35 (.aload_n 0) (36) := ri_of (by decide +kernel) rfl
theorem wi_456_36 : ri (rt_P sc fm) 456 36 (.iload_n 1) (37) := ri_of (by decide +kernel) rfl
theorem wi_456_37 : ri (rt_P sc fm) 456 37 (.iload_n 2) (38) := ri_of (by decide +kernel) rfl
theorem wi_456_38 : ri (rt_P sc fm) 456 38 (.invokevirtual 844) (41) := ri_of (by decide +kernel) rfl
theorem wi_456_4 : ri (rt_P sc fm) 456 4 (.istore_n 3) (5) := ri_of (by decide +kernel) rfl
theorem wi_456_41 : ri (rt_P sc fm) 456 41 (.aload_n 0) (42) := ri_of (by decide +kernel) rfl
theorem wi_456_42 : ri (rt_P sc fm) 456 42 (.iload_n 3) (43) := ri_of (by decide +kernel) rfl
theorem wi_456_43 : ri (rt_P sc fm) 456 43 (.iload_n 2) (44) := ri_of (by decide +kernel) rfl
theorem wi_456_44 : ri (rt_P sc fm) 456 44 (.invokevirtual 847) (47) := ri_of (by decide +kernel) rfl
theorem wi_456_47 : ri (rt_P sc fm) 456 47 (.aload_n 0) (48) := ri_of (by decide +kernel) rfl
theorem wi_456_48 : ri (rt_P sc fm) 456 48 (.iconst 1) (49) := ri_of (by decide +kernel) rfl
theorem wi_456_49 : ri (rt_P sc fm) 456 49 (.putfield 841) (52) := ri_of (by decide +kernel) rfl
theorem wi_456_5 : ri (rt_P sc fm) 456 5 (.iconst 0) (6) := ri_of (by decide +kernel) rfl
theorem wi_456_52 : ri (rt_P sc fm) 456 52 (.aload_n 0) (53) := ri_of (by decide +kernel) rfl
theorem wi_456_53 : ri (rt_P sc fm) 456 53 (.getfield 841) (56) := ri_of (by decide +kernel) rfl
theorem wi_456_56 : ri (rt_P sc fm) 456 56 (.ifCond .eq 212) (59) := ri_of (by decide +kernel) rfl
theorem wi_456_59 : ri (rt_P sc fm) 456 59 (.aload_n 0) (60) := ri_of (by decide +kernel) rfl
theorem wi_456_6 : ri (rt_P sc fm) 456 6 (.istore 4) (8) := ri_of (by decide +kernel) rfl
theorem wi_456_60 : ri (rt_P sc fm) 456 60 (.iconst 0) (61) := ri_of (by decide +kernel) rfl
theorem wi_456_61 : ri (rt_P sc fm) 456 61 (.putfield 841) (64) := ri_of (by decide +kernel) rfl
theorem wi_456_64 : ri (rt_P sc fm) 456 64 (.iload_n 3) (65) := ri_of (by decide +kernel) rfl
theorem wi_456_65 : ri (rt_P sc fm) 456 65 (.istore 4) (67) := ri_of (by decide +kernel) rfl
theorem wi_456_67 : ri (rt_P sc fm) 456 67 (.iload 4) (69) := ri_of (by decide +kernel) rfl
theorem wi_456_69 : ri (rt_P sc fm) 456 69 (.iload_n 3) (70) := ri_of (by decide +kernel) rfl
theorem wi_456_70 : ri (rt_P sc fm) 456 70 (.aload_n 0) (71) := ri_of (by decide +kernel) rfl
theorem wi_456_71 : ri (rt_P sc fm) 456 71 (.getfield 182) (74) := ri_of (by decide +kernel) rfl
theorem wi_456_74 : ri (rt_P sc fm) 456 74 (.iload_n 1) (75) := ri_of (by decide +kernel) rfl
theorem wi_456_75 : ri (rt_P sc fm) 456 75 (.iaload) (76) := ri_of (by decide +kernel) rfl
theorem wi_456_76 : ri (rt_P sc fm) 456 76 (.iadd) (77) := ri_of (by decide +kernel) rfl
theorem wi_456_77 : ri (rt_P sc fm) 456 77 (.if_icmp .ge 188) (80) := ri_of (by decide +kernel) rfl
theorem wi_456_8 : ri (rt_P sc fm) 456 8 (.iload 4) (10) := ri_of (by decide +kernel) rfl
theorem wi_456_80 : ri (rt_P sc fm) 456 80 (.aload_n 0) (81) := ri_of (by decide +kernel) rfl
theorem wi_456_81 : ri (rt_P sc fm) 456 81 (.getfield 271) (84) := ri_of (by decide +kernel) rfl
theorem wi_456_84 : ri (rt_P sc fm) 456 84 (.iload 4) (86) := ri_of (by decide +kernel) rfl
theorem wi_456_86 : ri (rt_P sc fm) 456 86 (.baload) (87) := ri_of (by decide +kernel) rfl
theorem wi_456_87 : ri (rt_P sc fm) 456 87 (.ifCond .ne 6) (90) := ri_of (by decide +kernel) rfl
theorem wi_456_90 : ri (rt_P sc fm) 456 90 (.goto 169) (93) := ri_of (by decide +kernel) rfl
theorem wi_456_93 : ri (rt_P sc fm) 456 93 (.iconst 0) (94) := ri_of (by decide +kernel) rfl
theorem wi_456_94 : ri (rt_P sc fm) 456 94 (.istore 5) (96) := ri_of (by decide +kernel) rfl
theorem wi_456_96 : ri (rt_P sc fm) 456 96 (.iload 5) (98) := ri_of (by decide +kernel) rfl
theorem wi_456_98 : ri (rt_P sc fm) 456 98 (.bipush 16) (100) := ri_of (by decide +kernel) rfl
set_option maxRecDepth 100000 in
theorem wm_452 : rx_ml (rt_P sc fm) 452 = 4 := (by decide +kernel : rt_ml 452 = 4)
set_option maxRecDepth 100000 in
theorem wm_454 : rx_ml (rt_P sc fm) 454 = 5 := (by decide +kernel : rt_ml 454 = 5)
set_option maxRecDepth 100000 in
theorem wm_455 : rx_ml (rt_P sc fm) 455 = 5 := (by decide +kernel : rt_ml 455 = 5)
set_option maxRecDepth 100000 in
theorem wp_456_841 : rx_pt (rt_P sc fm) 456 841 = some (15, 90, .boolean) := (by decide +kernel : rt_pt 456 841 = some (15, 90, .boolean))
set_option maxRecDepth 100000 in
theorem wr_456 : rx_rt (rt_P sc fm) 456 = none := (by decide +kernel : rt_rt 456 = none)
/-- MarkHouseModel.flowOf(II)V -/
def d_456 (n : Nat) (a1 : Int32) (a2 : Int32) (c : cS) : Option (cS) :=
  lt ((40 * a1) : Int32) (fun v2 =>
  Option.bind (whl (R := (cS)) (fun s5 : Int32 × cS =>
    if ib a1 96 then
    if (s5.2.1 210 (ix a1)) ≤ s5.1 then
      some (.inr s5.2)
    else
      if ib (v2 + s5.1) 3840 then
      lt (pI s5.2 239 (ix (v2 + s5.1)) (vp_nar .boolean 0)) (fun c8 =>
      lt (s5.1 + 1 : Int32) (fun v11 =>
      some (.inl (v11, c8))))
      else none
    else none) n (0, c))
  (fun x13 : cS =>
    Option.bind (d_452 n a1 a2 x13) (fun r14 =>
    Option.bind (d_455 n v2 a2 r14) (fun r15 =>
    lt (pI r15 174 90 1) (fun c16 =>
    Option.bind (whl (R := (cS)) (fun s18 : cS =>
      if (s18.1 174 90) = 0 then
        some (.inr s18)
      else
        lt (pI s18 174 90 0) (fun c19 =>
        Option.bind (whl (R := (cS)) (fun s22 : Int32 × cS =>
          if ib a1 96 then
          if (v2 + (s22.2.1 210 (ix a1))) ≤ s22.1 then
            some (.inr s22.2)
          else
            if ib s22.1 3840 then
            jn (fun p25 : cS =>
              lt (s22.1 + 1 : Int32) (fun v27 =>
              some (.inl (v27, p25))))
            (fun j259 =>
            if (s22.2.1 239 (ix s22.1)) = 0 then
              j259 s22.2
            else
              Option.bind (whl (R := (cS)) (fun s30 : Int32 × cS =>
                if 16 ≤ s30.1 then
                  some (.inr s30.2)
                else
                  if ib ((16 * s22.1) + s30.1) 61440 then
                  if ib s30.1 16 then
                  lt (pI s30.2 240 (ix s30.1) (s30.2.1 238 (ix ((16 * s22.1) + s30.1)))) (fun c33 =>
                  lt (s30.1 + 1 : Int32) (fun v36 =>
                  some (.inl (v36, c33))))
                  else none
                  else none) n (0, s22.2))
              (fun x38 : cS =>
                Option.bind (d_454 n s22.1 a2 x38) (fun r39 =>
                if ib s22.1 3840 then
                jn (fun p41 : cS =>
                  if ib s22.1 3840 then
                  if 0 ≤ (p41.1 216 (ix s22.1)) then
                    if ib s22.1 3840 then
                    lt (((8 + (p41.1 230 (ix s22.1))) - 1) : Int32) (fun v45 =>
                    if ib s22.1 3840 then
                    jn (fun p48 : cS =>
                      if ib s22.1 3840 then
                      Option.bind (d_455 n (v2 + (p48.1 216 (ix s22.1))) a2 p48) (fun r50 =>
                      j259 r50)
                      else none)
                    (fun j245 =>
                    if (p41.1 211 (ix s22.1)) = 29 then
                      if ib s22.1 3840 then
                      if (p41.1 214 (ix s22.1)) = a2 then
                        if ib v45 16 then
                        if ib s22.1 3840 then
                        Option.bind (d_391 n a2 (p41.1 240 (ix v45)) (p41.1 215 (ix s22.1)) p41) (fun v54 =>
                        if ib v45 16 then
                        lt (pI p41 240 (ix v45) v54) (fun c56 =>
                        j245 c56)
                        else none)
                        else none
                        else none
                      else
                        j245 p41
                      else none
                    else
                      j245 p41)
                    else none)
                    else none
                  else
                    j259 p41
                  else none)
                (fun j169 =>
                if (r39.1 211 (ix s22.1)) = 21 then
                  j169 r39
                else
                  if ib s22.1 3840 then
                  if (r39.1 211 (ix s22.1)) = 27 then
                    j169 r39
                  else
                    Option.bind (d_455 n (s22.1 + 1) a2 r39) (fun r59 =>
                    j169 r59)
                  else none)
                else none)))
            else none
          else none) n (v2, c19))
        (fun x60 : cS =>
          some (.inl x60)))) n c16)
    (fun x61 : cS =>
      some x61))))))
set_option maxRecDepth 100000 in
set_option maxHeartbeats 4000000 in
theorem sp_456 {F Lo n : Nat} {a1 : Int32} {a2 : Int32} {c y : cS} {w : cW} {K : cS → Prop} {Q : ((Option Value) ⊕ String) → List va_E → Prop} (hw : rOK fm w) (hF : 3 ≤ F) (hLo : 70 ≤ Lo)  (h : wp (d_456 n a1 a2 c) K) (hQ : ∀ r, K r → Q (.inl none) (hq false r y w)) : rs (rt_P sc fm) 456 F Lo 0 [(0, .ref 174), (1, .int a1), (2, .int a2)] [] (hq false c y w) Q := by
  unfold d_456 at h
  obtain ⟨lv, elv⟩ : ∃ lv : rx_L, lv = [(0, .ref 174), (1, .int a1), (2, .int a2)] := ⟨_, rfl⟩
  rw [← elv]
  have l0 : rx_ld lv 0 = some (.ref 174) := by rw [elv]; rfl
  have l1 : rx_ld lv 1 = some (.int a1) := by rw [elv]; rfl
  have l2 : rx_ld lv 2 = some (.int a2) := by rw [elv]; rfl
  refine rs_pure wi_456_0 rfl ?_
  refine rs_topi (v := 40) (by decide) ?_
  refine rs_ildn wi_456_2 l1 ?_
  refine rs_pure wi_456_3 rfl ?_
  obtain ⟨v2, e3, h⟩ := wp_lt h
  refine rs_topi e3 ?_
  refine dl_istn wi_456_4 rfl (fun lv l3 t1 => ?_)
  have l0 := t1 _ _ (by decide) (Or.inl rfl) l0
  have l1 := t1 _ _ (by decide) (Or.inl rfl) l1
  have l2 := t1 _ _ (by decide) (Or.inl rfl) l2
  refine rs_pure wi_456_5 rfl ?_
  refine rs_topi (v := 0) (by decide) ?_
  refine dl_ist wi_456_6 rfl (fun lv l4 t4 => ?_)
  have l0 := t4 _ _ (by decide) (Or.inl rfl) l0
  have l1 := t4 _ _ (by decide) (Or.inl rfl) l1
  have l2 := t4 _ _ (by decide) (Or.inl rfl) l2
  have l3 := t4 _ _ (by decide) (Or.inl rfl) l3
  refine whl_ex (A := fun s5 : Int32 × cS => ∀ lv, rx_ld lv 0 = some (.ref 174) → rx_ld lv 1 = some (.int a1) → rx_ld lv 2 = some (.int a2) → rx_ld lv 3 = some (.int v2) → rx_ld lv 4 = some (.int s5.1) → rs (rt_P sc fm) 456 F Lo 8 lv [] (hq false s5.2 y w) Q) (B := (fun x13 : cS => ∀ lv, rx_ld lv 0 = some (.ref 174) → rx_ld lv 1 = some (.int a1) → rx_ld lv 2 = some (.int a2) → rx_ld lv 3 = some (.int v2) → rs (rt_P sc fm) 456 F Lo 35 lv [] (hq false x13 y w) Q)) ?_ ?_ _ _ (wp_bind h) _ l0 l1 l2 l3 l4
  · intro s5 h lv l0 l1 l2 l3 l4
    refine rs_ild wi_456_8 l4 ?_
    refine rs_aldn wi_456_10 l0 ?_
    refine dq_gr wi_456_11 wf_456_182 tf_174_48 ?_
    refine rs_ildn wi_456_14 l1 ?_
    obtain ⟨g6, h⟩ := wp_gd h
    refine dq_iald wi_456_15 t_210 g6 ?_
    refine rs_icge (tg := 35) wi_456_16 ⟨by decide, by decide⟩ (fun q => ?_) (fun q => ?_)
    ·
      have h := wp_pos h q
      exact h _ l0 l1 l2 l3
    ·
      have h := wp_neg h q
      refine rs_aldn wi_456_19 l0 ?_
      refine dq_gr wi_456_20 wf_456_271 tf_174_88 ?_
      refine rs_ildn wi_456_23 l3 ?_
      refine rs_ild wi_456_24 l4 ?_
      refine rs_pure wi_456_26 rfl ?_
      refine rs_pure wi_456_27 rfl ?_
      refine rs_topi (v := 0) (by decide) ?_
      obtain ⟨g7, h⟩ := wp_gd h
      obtain ⟨c8, e9, h⟩ := wp_lt h
      refine dq_zast wi_456_28 t_239 g7 e9 ?_
      obtain ⟨v11, e12, h⟩ := wp_lt h
      refine dl_inc wi_456_29 l4 rfl e12 (fun lv l4 t10 => ?_)
      have l0 := t10 _ _ (by decide) (Or.inl rfl) l0
      have l1 := t10 _ _ (by decide) (Or.inl rfl) l1
      have l2 := t10 _ _ (by decide) (Or.inl rfl) l2
      have l3 := t10 _ _ (by decide) (Or.inl rfl) l3
      refine rs_goto (tg := 8) wi_456_32 ⟨by decide, by decide⟩ ?_
      exact h _ l0 l1 l2 l3 l4
  ·
    intro x13 h lv l0 l1 l2 l3
    refine rs_aldn wi_456_35 l0 ?_
    refine rs_ildn wi_456_36 l1 ?_
    refine rs_ildn wi_456_37 l2 ?_
    refine rs_V wi_456_38 wc_456_844 rfl (dq_isa tf_174_0 wa_15_452) (Nat.le_trans (by decide) hF) (ml_le wm_452 (Nat.le_trans (by decide) hLo)) rfl (sp_452 hw (Nat.le_trans (by decide : 1 ≤ 3 - 1) (Nat.sub_le_sub_right hF 1)) (ml_sub wm_452 (Nat.le_trans (by decide : 20 ≤ 70 - 23) (Nat.sub_le_sub_right hLo 23))) (wp_bind h) (fun r14 h => rs_back0 ?_))
    refine rs_aldn wi_456_41 l0 ?_
    refine rs_ildn wi_456_42 l3 ?_
    refine rs_ildn wi_456_43 l2 ?_
    refine rs_V wi_456_44 wc_456_847 rfl (dq_isa tf_174_0 wa_15_455) (Nat.le_trans (by decide) hF) (ml_le wm_455 (Nat.le_trans (by decide) hLo)) rfl (sp_455 hw (Nat.le_trans (by decide : 2 ≤ 3 - 1) (Nat.sub_le_sub_right hF 1)) (ml_sub wm_455 (Nat.le_trans (by decide : 46 ≤ 70 - 24) (Nat.sub_le_sub_right hLo 24))) (wp_bind h) (fun r15 h => rs_back0 ?_))
    refine rs_aldn wi_456_47 l0 ?_
    refine rs_pure wi_456_48 rfl ?_
    refine rs_topi (v := 1) (by decide) ?_
    obtain ⟨c16, e17, h⟩ := wp_lt h
    refine dq_pi wi_456_49 wp_456_841 tf_174_90 (nb_n (by decide)) (nb_f (by decide)) e17 ?_
    refine whl_ex (A := fun s18 : cS => ∀ lv, rx_ld lv 0 = some (.ref 174) → rx_ld lv 1 = some (.int a1) → rx_ld lv 2 = some (.int a2) → rx_ld lv 3 = some (.int v2) → rs (rt_P sc fm) 456 F Lo 52 lv [] (hq false s18 y w) Q) (B := (fun x61 : cS => ∀ lv, rs (rt_P sc fm) 456 F Lo 268 lv [] (hq false x61 y w) Q)) ?_ ?_ _ _ (wp_bind h) _ l0 l1 l2 l3
    · intro s18 h lv l0 l1 l2 l3
      refine rs_aldn wi_456_52 l0 ?_
      refine dq_gi wi_456_53 wf_456_841 tf_174_90 ?_
      refine rs_ifeq (tg := 268) wi_456_56 ⟨by decide, by decide⟩ (fun q => ?_) (fun q => ?_)
      ·
        have h := wp_pos h q
        exact h _
      ·
        have h := wp_neg h q
        refine rs_aldn wi_456_59 l0 ?_
        refine rs_pure wi_456_60 rfl ?_
        refine rs_topi (v := 0) (by decide) ?_
        obtain ⟨c19, e20, h⟩ := wp_lt h
        refine dq_pi wi_456_61 wp_456_841 tf_174_90 (nb_n (by decide)) (nb_f (by decide)) e20 ?_
        refine rs_ildn wi_456_64 l3 ?_
        refine dl_ist wi_456_65 rfl (fun lv l4 t21 => ?_)
        have l0 := t21 _ _ (by decide) (Or.inl rfl) l0
        have l1 := t21 _ _ (by decide) (Or.inl rfl) l1
        have l2 := t21 _ _ (by decide) (Or.inl rfl) l2
        have l3 := t21 _ _ (by decide) (Or.inl rfl) l3
        refine whl_ex (A := fun s22 : Int32 × cS => ∀ lv, rx_ld lv 0 = some (.ref 174) → rx_ld lv 1 = some (.int a1) → rx_ld lv 2 = some (.int a2) → rx_ld lv 3 = some (.int v2) → rx_ld lv 4 = some (.int s22.1) → rs (rt_P sc fm) 456 F Lo 67 lv [] (hq false s22.2 y w) Q) (B := (fun x60 : cS => ∀ lv, rx_ld lv 0 = some (.ref 174) → rx_ld lv 1 = some (.int a1) → rx_ld lv 2 = some (.int a2) → rx_ld lv 3 = some (.int v2) → rs (rt_P sc fm) 456 F Lo 265 lv [] (hq false x60 y w) Q)) ?_ ?_ _ _ (wp_bind h) _ l0 l1 l2 l3 l4
        · intro s22 h lv l0 l1 l2 l3 l4
          refine rs_ild wi_456_67 l4 ?_
          refine rs_ildn wi_456_69 l3 ?_
          refine rs_aldn wi_456_70 l0 ?_
          refine dq_gr wi_456_71 wf_456_182 tf_174_48 ?_
          refine rs_ildn wi_456_74 l1 ?_
          obtain ⟨g23, h⟩ := wp_gd h
          refine dq_iald wi_456_75 t_210 g23 ?_
          refine rs_pure wi_456_76 rfl ?_
          refine rs_icge (tg := 265) wi_456_77 ⟨by decide, by decide⟩ (fun q => ?_) (fun q => ?_)
          ·
            have h := wp_pos h q
            exact h _ l0 l1 l2 l3
          ·
            have h := wp_neg h q
            refine rs_aldn wi_456_80 l0 ?_
            refine dq_gr wi_456_81 wf_456_271 tf_174_88 ?_
            refine rs_ild wi_456_84 l4 ?_
            obtain ⟨g24, h⟩ := wp_gd h
            refine dq_zald wi_456_86 t_239 g24 ?_
            refine wp_jn (B := fun p25 : cS => ∀ lv, rx_ld lv 0 = some (.ref 174) → rx_ld lv 1 = some (.int a1) → rx_ld lv 2 = some (.int a2) → rx_ld lv 3 = some (.int v2) → rx_ld lv 4 = some (.int s22.1) → rs (rt_P sc fm) 456 F Lo 259 lv [] (hq false p25 y w) Q) h (fun p25 h lv l0 l1 l2 l3 l4 => ?_) (fun j259 hj259 h => ?_)
            ·
              obtain ⟨v27, e28, h⟩ := wp_lt h
              refine dl_inc wi_456_259 l4 rfl e28 (fun lv l4 t26 => ?_)
              have l0 := t26 _ _ (by decide) (Or.inl rfl) l0
              have l1 := t26 _ _ (by decide) (Or.inl rfl) l1
              have l2 := t26 _ _ (by decide) (Or.inl rfl) l2
              have l3 := t26 _ _ (by decide) (Or.inl rfl) l3
              refine rs_goto (tg := 67) wi_456_262 ⟨by decide, by decide⟩ ?_
              exact h _ l0 l1 l2 l3 l4
            refine rs_ifne (tg := 93) wi_456_87 ⟨by decide, by decide⟩ (fun q => ?_) (fun q => ?_)
            ·
              have h := wp_neg h q
              refine rs_pure wi_456_93 rfl ?_
              refine rs_topi (v := 0) (by decide) ?_
              refine dl_ist wi_456_94 rfl (fun lv l5 t29 => ?_)
              have l0 := t29 _ _ (by decide) (Or.inl rfl) l0
              have l1 := t29 _ _ (by decide) (Or.inl rfl) l1
              have l2 := t29 _ _ (by decide) (Or.inl rfl) l2
              have l3 := t29 _ _ (by decide) (Or.inl rfl) l3
              have l4 := t29 _ _ (by decide) (Or.inl rfl) l4
              refine whl_ex (A := fun s30 : Int32 × cS => ∀ lv, rx_ld lv 0 = some (.ref 174) → rx_ld lv 1 = some (.int a1) → rx_ld lv 2 = some (.int a2) → rx_ld lv 3 = some (.int v2) → rx_ld lv 4 = some (.int s22.1) → rx_ld lv 5 = some (.int s30.1) → rs (rt_P sc fm) 456 F Lo 96 lv [] (hq false s30.2 y w) Q) (B := (fun x38 : cS => ∀ lv, rx_ld lv 0 = some (.ref 174) → rx_ld lv 1 = some (.int a1) → rx_ld lv 2 = some (.int a2) → rx_ld lv 3 = some (.int v2) → rx_ld lv 4 = some (.int s22.1) → rs (rt_P sc fm) 456 F Lo 129 lv [] (hq false x38 y w) Q)) ?_ ?_ _ _ (wp_bind h) _ l0 l1 l2 l3 l4 l5
              · intro s30 h lv l0 l1 l2 l3 l4 l5
                refine rs_ild wi_456_96 l5 ?_
                refine rs_pure wi_456_98 rfl ?_
                refine rs_topi (v := 16) (by decide) ?_
                refine rs_icge (tg := 129) wi_456_100 ⟨by decide, by decide⟩ (fun q => ?_) (fun q => ?_)
                ·
                  have h := wp_pos h q
                  exact h _ l0 l1 l2 l3 l4
                ·
                  have h := wp_neg h q
                  refine rs_aldn wi_456_103 l0 ?_
                  refine dq_gr wi_456_104 wf_456_274 tf_174_89 ?_
                  refine rs_ild wi_456_107 l5 ?_
                  refine rs_aldn wi_456_109 l0 ?_
                  refine dq_gr wi_456_110 wf_456_268 tf_174_87 ?_
                  refine rs_pure wi_456_113 rfl ?_
                  refine rs_topi (v := 16) (by decide) ?_
                  refine rs_ild wi_456_115 l4 ?_
                  refine rs_pure wi_456_117 rfl ?_
                  refine rs_ild wi_456_118 l5 ?_
                  refine rs_pure wi_456_120 rfl ?_
                  obtain ⟨g31, h⟩ := wp_gd h
                  refine dq_iald wi_456_121 t_238 g31 ?_
                  obtain ⟨g32, h⟩ := wp_gd h
                  obtain ⟨c33, e34, h⟩ := wp_lt h
                  refine dq_iast wi_456_122 t_240 g32 e34 ?_
                  obtain ⟨v36, e37, h⟩ := wp_lt h
                  refine dl_inc wi_456_123 l5 rfl e37 (fun lv l5 t35 => ?_)
                  have l0 := t35 _ _ (by decide) (Or.inl rfl) l0
                  have l1 := t35 _ _ (by decide) (Or.inl rfl) l1
                  have l2 := t35 _ _ (by decide) (Or.inl rfl) l2
                  have l3 := t35 _ _ (by decide) (Or.inl rfl) l3
                  have l4 := t35 _ _ (by decide) (Or.inl rfl) l4
                  refine rs_goto (tg := 96) wi_456_126 ⟨by decide, by decide⟩ ?_
                  exact h _ l0 l1 l2 l3 l4 l5
              ·
                intro x38 h lv l0 l1 l2 l3 l4
                refine rs_aldn wi_456_129 l0 ?_
                refine rs_ild wi_456_130 l4 ?_
                refine rs_ildn wi_456_132 l2 ?_
                refine rs_V wi_456_133 wc_456_850 rfl (dq_isa tf_174_0 wa_15_454) (Nat.le_trans (by decide) hF) (ml_le wm_454 (Nat.le_trans (by decide) hLo)) rfl (sp_454 hw (Nat.le_trans (by decide : 2 ≤ 3 - 1) (Nat.sub_le_sub_right hF 1)) (ml_sub wm_454 (Nat.le_trans (by decide : 46 ≤ 70 - 24) (Nat.sub_le_sub_right hLo 24))) (wp_bind h) (fun r39 h => rs_back0 ?_))
                refine rs_aldn wi_456_136 l0 ?_
                refine dq_gr wi_456_137 wf_456_185 tf_174_49 ?_
                refine rs_ild wi_456_140 l4 ?_
                obtain ⟨g40, h⟩ := wp_gd h
                refine dq_iald wi_456_142 t_211 g40 ?_
                refine rs_pure wi_456_143 rfl ?_
                refine rs_topi (v := 21) (by decide) ?_
                refine wp_jn (B := fun p41 : cS => ∀ lv, rx_ld lv 0 = some (.ref 174) → rx_ld lv 1 = some (.int a1) → rx_ld lv 2 = some (.int a2) → rx_ld lv 3 = some (.int v2) → rx_ld lv 4 = some (.int s22.1) → rs (rt_P sc fm) 456 F Lo 169 lv [] (hq false p41 y w) Q) h (fun p41 h lv l0 l1 l2 l3 l4 => ?_) (fun j169 hj169 h => ?_)
                ·
                  refine rs_aldn wi_456_169 l0 ?_
                  refine dq_gr wi_456_170 wf_456_200 tf_174_54 ?_
                  refine rs_ild wi_456_173 l4 ?_
                  obtain ⟨g42, h⟩ := wp_gd h
                  refine dq_iald wi_456_175 t_216 g42 ?_
                  refine rs_ifge (tg := 182) wi_456_176 ⟨by decide, by decide⟩ (fun q => ?_) (fun q => ?_)
                  ·
                    have h := wp_pos h q
                    refine rs_pure wi_456_182 rfl ?_
                    refine rs_topi (v := 8) (by decide) ?_
                    refine rs_aldn wi_456_184 l0 ?_
                    refine dq_gr wi_456_185 wf_456_243 tf_174_70 ?_
                    refine rs_ild wi_456_188 l4 ?_
                    obtain ⟨g43, h⟩ := wp_gd h
                    refine dq_iald wi_456_190 t_230 g43 ?_
                    refine rs_pure wi_456_191 rfl ?_
                    refine rs_pure wi_456_192 rfl ?_
                    refine rs_topi (v := 1) (by decide) ?_
                    refine rs_pure wi_456_193 rfl ?_
                    obtain ⟨v45, e46, h⟩ := wp_lt h
                    refine rs_topi e46 ?_
                    refine dl_ist wi_456_194 rfl (fun lv l5 t44 => ?_)
                    have l0 := t44 _ _ (by decide) (Or.inl rfl) l0
                    have l1 := t44 _ _ (by decide) (Or.inl rfl) l1
                    have l2 := t44 _ _ (by decide) (Or.inl rfl) l2
                    have l3 := t44 _ _ (by decide) (Or.inl rfl) l3
                    have l4 := t44 _ _ (by decide) (Or.inl rfl) l4
                    refine rs_aldn wi_456_196 l0 ?_
                    refine dq_gr wi_456_197 wf_456_185 tf_174_49 ?_
                    refine rs_ild wi_456_200 l4 ?_
                    obtain ⟨g47, h⟩ := wp_gd h
                    refine dq_iald wi_456_202 t_211 g47 ?_
                    refine rs_pure wi_456_203 rfl ?_
                    refine rs_topi (v := 29) (by decide) ?_
                    refine wp_jn (B := fun p48 : cS => ∀ lv, rx_ld lv 0 = some (.ref 174) → rx_ld lv 1 = some (.int a1) → rx_ld lv 2 = some (.int a2) → rx_ld lv 3 = some (.int v2) → rx_ld lv 4 = some (.int s22.1) → rs (rt_P sc fm) 456 F Lo 245 lv [] (hq false p48 y w) Q) h (fun p48 h lv l0 l1 l2 l3 l4 => ?_) (fun j245 hj245 h => ?_)
                    ·
                      refine rs_aldn wi_456_245 l0 ?_
                      refine rs_ildn wi_456_246 l3 ?_
                      refine rs_aldn wi_456_247 l0 ?_
                      refine dq_gr wi_456_248 wf_456_200 tf_174_54 ?_
                      refine rs_ild wi_456_251 l4 ?_
                      obtain ⟨g49, h⟩ := wp_gd h
                      refine dq_iald wi_456_253 t_216 g49 ?_
                      refine rs_pure wi_456_254 rfl ?_
                      refine rs_ildn wi_456_255 l2 ?_
                      refine rs_V wi_456_256 wc_456_847 rfl (dq_isa tf_174_0 wa_15_455) (Nat.le_trans (by decide) hF) (ml_le wm_455 (Nat.le_trans (by decide) hLo)) rfl (sp_455 hw (Nat.le_trans (by decide : 2 ≤ 3 - 1) (Nat.sub_le_sub_right hF 1)) (ml_sub wm_455 (Nat.le_trans (by decide : 46 ≤ 70 - 24) (Nat.sub_le_sub_right hLo 24))) (wp_bind h) (fun r50 h => rs_back0 ?_))
                      exact hj259 _ h _ l0 l1 l2 l3 l4
                    refine rs_icne (tg := 245) wi_456_205 ⟨by decide, by decide⟩ (fun q => ?_) (fun q => ?_)
                    ·
                      have h := wp_neg h q
                      exact hj245 _ h _ l0 l1 l2 l3 l4
                    ·
                      have h := wp_pos h q
                      refine rs_aldn wi_456_208 l0 ?_
                      refine dq_gr wi_456_209 wf_456_194 tf_174_52 ?_
                      refine rs_ild wi_456_212 l4 ?_
                      obtain ⟨g51, h⟩ := wp_gd h
                      refine dq_iald wi_456_214 t_214 g51 ?_
                      refine rs_ildn wi_456_215 l2 ?_
                      refine rs_icne (tg := 245) wi_456_216 ⟨by decide, by decide⟩ (fun q => ?_) (fun q => ?_)
                      ·
                        have h := wp_neg h q
                        exact hj245 _ h _ l0 l1 l2 l3 l4
                      ·
                        have h := wp_pos h q
                        refine rs_aldn wi_456_219 l0 ?_
                        refine dq_gr wi_456_220 wf_456_274 tf_174_89 ?_
                        refine rs_ild wi_456_223 l5 ?_
                        refine rs_aldn wi_456_225 l0 ?_
                        refine rs_ildn wi_456_226 l2 ?_
                        refine rs_aldn wi_456_227 l0 ?_
                        refine dq_gr wi_456_228 wf_456_274 tf_174_89 ?_
                        refine rs_ild wi_456_231 l5 ?_
                        obtain ⟨g52, h⟩ := wp_gd h
                        refine dq_iald wi_456_233 t_240 g52 ?_
                        refine rs_aldn wi_456_234 l0 ?_
                        refine dq_gr wi_456_235 wf_456_197 tf_174_53 ?_
                        refine rs_ild wi_456_238 l4 ?_
                        obtain ⟨g53, h⟩ := wp_gd h
                        refine dq_iald wi_456_240 t_215 g53 ?_
                        refine rs_V wi_456_241 wc_456_730 rfl (dq_isa tf_174_0 wa_15_391) (Nat.le_trans (by decide) hF) (ml_le wm_391 (Nat.le_trans (by decide) hLo)) rfl (sp_391 hw (Nat.le_trans (by decide : 1 ≤ 3 - 1) (Nat.sub_le_sub_right hF 1)) (ml_sub wm_391 (Nat.le_trans (by decide : 23 ≤ 70 - 23) (Nat.sub_le_sub_right hLo 23))) (wp_bind h) (fun v54 h => rs_back1 ?_))
                        obtain ⟨g55, h⟩ := wp_gd h
                        obtain ⟨c56, e57, h⟩ := wp_lt h
                        refine dq_iast wi_456_244 t_240 g55 e57 ?_
                        exact hj245 _ h _ l0 l1 l2 l3 l4
                  ·
                    have h := wp_neg h q
                    refine rs_goto (tg := 259) wi_456_179 ⟨by decide, by decide⟩ ?_
                    exact hj259 _ h _ l0 l1 l2 l3 l4
                refine rs_iceq (tg := 169) wi_456_145 ⟨by decide, by decide⟩ (fun q => ?_) (fun q => ?_)
                ·
                  have h := wp_pos h q
                  exact hj169 _ h _ l0 l1 l2 l3 l4
                ·
                  have h := wp_neg h q
                  refine rs_aldn wi_456_148 l0 ?_
                  refine dq_gr wi_456_149 wf_456_185 tf_174_49 ?_
                  refine rs_ild wi_456_152 l4 ?_
                  obtain ⟨g58, h⟩ := wp_gd h
                  refine dq_iald wi_456_154 t_211 g58 ?_
                  refine rs_pure wi_456_155 rfl ?_
                  refine rs_topi (v := 27) (by decide) ?_
                  refine rs_iceq (tg := 169) wi_456_157 ⟨by decide, by decide⟩ (fun q => ?_) (fun q => ?_)
                  ·
                    have h := wp_pos h q
                    exact hj169 _ h _ l0 l1 l2 l3 l4
                  ·
                    have h := wp_neg h q
                    refine rs_aldn wi_456_160 l0 ?_
                    refine rs_ild wi_456_161 l4 ?_
                    refine rs_pure wi_456_163 rfl ?_
                    refine rs_topi (v := 1) (by decide) ?_
                    refine rs_pure wi_456_164 rfl ?_
                    refine rs_ildn wi_456_165 l2 ?_
                    refine rs_V wi_456_166 wc_456_847 rfl (dq_isa tf_174_0 wa_15_455) (Nat.le_trans (by decide) hF) (ml_le wm_455 (Nat.le_trans (by decide) hLo)) rfl (sp_455 hw (Nat.le_trans (by decide : 2 ≤ 3 - 1) (Nat.sub_le_sub_right hF 1)) (ml_sub wm_455 (Nat.le_trans (by decide : 46 ≤ 70 - 24) (Nat.sub_le_sub_right hLo 24))) (wp_bind h) (fun r59 h => rs_back0 ?_))
                    exact hj169 _ h _ l0 l1 l2 l3 l4
            ·
              have h := wp_pos h q
              refine rs_goto (tg := 259) wi_456_90 ⟨by decide, by decide⟩ ?_
              exact hj259 _ h _ l0 l1 l2 l3 l4
        ·
          intro x60 h lv l0 l1 l2 l3
          refine rs_goto (tg := 52) wi_456_265 ⟨by decide, by decide⟩ ?_
          exact h _ l0 l1 l2 l3
    ·
      intro x61 h lv
      exact rs_vret wi_456_268 wr_456 (hQ x61 h)
set_option maxRecDepth 100000 in
theorem wf_457_173 : rx_ft (rt_P sc fm) 457 173 = some (15, 45) := (by decide +kernel : rt_ft 457 173 = some (15, 45))
set_option maxRecDepth 100000 in
theorem wf_457_185 : rx_ft (rt_P sc fm) 457 185 = some (15, 49) := (by decide +kernel : rt_ft 457 185 = some (15, 49))
set_option maxRecDepth 100000 in
theorem wf_457_194 : rx_ft (rt_P sc fm) 457 194 = some (15, 52) := (by decide +kernel : rt_ft 457 194 = some (15, 52))
set_option maxRecDepth 100000 in
theorem wf_457_197 : rx_ft (rt_P sc fm) 457 197 = some (15, 53) := (by decide +kernel : rt_ft 457 197 = some (15, 53))
theorem wi_457_0 : ri (rt_P sc fm) 457 0 (.aload_n 0) (1) := ri_of (by decide +kernel) rfl
theorem wi_457_1 : ri (rt_P sc fm) 457 1 (.getfield 185) (4) := ri_of (by decide +kernel) rfl
theorem wi_457_11 : ri (rt_P sc fm) 457 11 (.aload_n 0) (12) := ri_of (by decide +kernel) rfl
theorem wi_457_12 : ri (rt_P sc fm) 457 12 (.getfield 185) (15) := ri_of (by decide +kernel) rfl
theorem wi_457_15 : ri (rt_P sc fm) 457 15 (.iload_n 1) (16) := ri_of (by decide +kernel) rfl
theorem wi_457_16 : ri (rt_P sc fm) 457 16 (.iaload) (17) := ri_of (by decide +kernel) rfl
theorem wi_457_17 : ri (rt_P sc fm) 457 17 (.bipush 21) (19) := ri_of (by decide +kernel) rfl
theorem wi_457_19 : ri (rt_P sc fm) 457 19 (.if_icmp .ne 7) (22) := ri_of (by decide +kernel) rfl
theorem wi_457_22 : ri (rt_P sc fm) 457 22 (.iconst 1) (23) := ri_of (by decide +kernel) rfl
theorem wi_457_23 : ri (rt_P sc fm) 457 23 (.goto 39) (26) := ri_of (by decide +kernel) rfl
theorem wi_457_26 : ri (rt_P sc fm) 457 26 (.aload_n 0) (27) := ri_of (by decide +kernel) rfl
theorem wi_457_27 : ri (rt_P sc fm) 457 27 (.getfield 185) (30) := ri_of (by decide +kernel) rfl
theorem wi_457_30 : ri (rt_P sc fm) 457 30 (.iload_n 1) (31) := ri_of (by decide +kernel) rfl
theorem wi_457_31 : ri (rt_P sc fm) 457 31 (.iaload) (32) := ri_of (by decide +kernel) rfl
theorem wi_457_32 : ri (rt_P sc fm) 457 32 (.bipush 20) (34) := ri_of (by decide +kernel) rfl
theorem wi_457_34 : ri (rt_P sc fm) 457 34 (.if_icmp .ne 27) (37) := ri_of (by decide +kernel) rfl
theorem wi_457_37 : ri (rt_P sc fm) 457 37 (.aload_n 0) (38) := ri_of (by decide +kernel) rfl
theorem wi_457_38 : ri (rt_P sc fm) 457 38 (.getfield 173) (41) := ri_of (by decide +kernel) rfl
theorem wi_457_4 : ri (rt_P sc fm) 457 4 (.iload_n 1) (5) := ri_of (by decide +kernel) rfl
theorem wi_457_41 : ri (rt_P sc fm) 457 41 (.bipush 8) (43) := ri_of (by decide +kernel) rfl
theorem wi_457_43 : ri (rt_P sc fm) 457 43 (.aload_n 0) (44) := ri_of (by decide +kernel) rfl
theorem wi_457_44 : ri (rt_P sc fm) 457 44 (.getfield 194) (47) := ri_of (by decide +kernel) rfl
theorem wi_457_47 : ri (rt_P sc fm) 457 47 (.iload_n 1) (48) := ri_of (by decide +kernel) rfl
theorem wi_457_48 : ri (rt_P sc fm) 457 48 (.iaload) (49) := ri_of (by decide +kernel) rfl
theorem wi_457_49 : ri (rt_P sc fm) 457 49 (.imul) (50) := ri_of (by decide +kernel) rfl
theorem wi_457_5 : ri (rt_P sc fm) 457 5 (.iaload) (6) := ri_of (by decide +kernel) rfl
theorem wi_457_50 : ri (rt_P sc fm) 457 50 (.aload_n 0) (51) := ri_of (by decide +kernel) rfl
theorem wi_457_51 : ri (rt_P sc fm) 457 51 (.getfield 197) (54) := ri_of (by decide +kernel) rfl
theorem wi_457_54 : ri (rt_P sc fm) 457 54 (.iload_n 1) (55) := ri_of (by decide +kernel) rfl
theorem wi_457_55 : ri (rt_P sc fm) 457 55 (.iaload) (56) := ri_of (by decide +kernel) rfl
theorem wi_457_56 : ri (rt_P sc fm) 457 56 (.iadd) (57) := ri_of (by decide +kernel) rfl
theorem wi_457_57 : ri (rt_P sc fm) 457 57 (.iaload) (58) := ri_of (by decide +kernel) rfl
theorem wi_457_58 : ri (rt_P sc fm) 457 58 (.goto 4) (61) := ri_of (by decide +kernel) rfl
theorem wi_457_6 : ri (rt_P sc fm) 457 6 (.bipush 19) (8) := ri_of (by decide +kernel) rfl
theorem wi_457_61 : ri (rt_P sc fm) 457 61 (.iconst 0) (62) := ri_of (by decide +kernel) rfl
theorem wi_457_62 : ri (rt_P sc fm) 457 62 (.ireturn) (63) := ri_of (by decide +kernel) rfl
theorem wi_457_8 : ri (rt_P sc fm) 457 8 (.if_icmp .eq 14) (11) := ri_of (by decide +kernel) rfl
set_option maxRecDepth 100000 in
theorem wr_457 : rx_rt (rt_P sc fm) 457 = (some FieldType.int) := (by decide +kernel : rt_rt 457 = (some FieldType.int))
/-- MarkHouseModel.wants(I)I -/
def d_457 (n : Nat) (a1 : Int32) (c : cS) : Option (Int32) :=
  if ib a1 3840 then
  jn (fun p2 : Int32 =>
    some p2)
  (fun j62 =>
  jn (fun p3 : Unit =>
    j62 1)
  (fun j22 =>
  if (c.1 211 (ix a1)) = 19 then
    j22 ()
  else
    if ib a1 3840 then
    if (c.1 211 (ix a1)) = 21 then
      j22 ()
    else
      if ib a1 3840 then
      if (c.1 211 (ix a1)) = 20 then
        if ib a1 3840 then
        if ib a1 3840 then
        if ib ((8 * (c.1 214 (ix a1))) + (c.1 215 (ix a1))) 96 then
        j62 (c.1 207 (ix ((8 * (c.1 214 (ix a1))) + (c.1 215 (ix a1)))))
        else none
        else none
        else none
      else
        j62 0
      else none
    else none))
  else none
set_option maxRecDepth 100000 in
set_option maxHeartbeats 4000000 in
theorem sp_457 {F Lo n : Nat} {a1 : Int32} {c y : cS} {w : cW} {K : Int32 → Prop} {Q : ((Option Value) ⊕ String) → List va_E → Prop} (hw : rOK fm w) (hF : 0 ≤ F) (hLo : 0 ≤ Lo)  (h : wp (d_457 n a1 c) K) (hQ : ∀ r, K r → Q (.inl (some (.int r))) (hq false c y w)) : rs (rt_P sc fm) 457 F Lo 0 [(0, .ref 174), (1, .int a1)] [] (hq false c y w) Q := by
  unfold d_457 at h
  obtain ⟨lv, elv⟩ : ∃ lv : rx_L, lv = [(0, .ref 174), (1, .int a1)] := ⟨_, rfl⟩
  rw [← elv]
  have l0 : rx_ld lv 0 = some (.ref 174) := by rw [elv]; rfl
  have l1 : rx_ld lv 1 = some (.int a1) := by rw [elv]; rfl
  refine rs_aldn wi_457_0 l0 ?_
  refine dq_gr wi_457_1 wf_457_185 tf_174_49 ?_
  refine rs_ildn wi_457_4 l1 ?_
  obtain ⟨g1, h⟩ := wp_gd h
  refine dq_iald wi_457_5 t_211 g1 ?_
  refine rs_pure wi_457_6 rfl ?_
  refine rs_topi (v := 19) (by decide) ?_
  refine wp_jn (B := fun p2 : Int32 => ∀ lv, rs (rt_P sc fm) 457 F Lo 62 lv [.int p2] (hq false c y w) Q) h (fun p2 h lv => ?_) (fun j62 hj62 h => ?_)
  ·
    exact rs_iret wi_457_62 wr_457 rfl (hQ p2 h)
  refine wp_jn (B := fun p3 : Unit => ∀ lv, rs (rt_P sc fm) 457 F Lo 22 lv [] (hq false c y w) Q) h (fun p3 h lv => ?_) (fun j22 hj22 h => ?_)
  ·
    refine rs_pure wi_457_22 rfl ?_
    refine rs_topi (v := 1) (by decide) ?_
    refine rs_goto (tg := 62) wi_457_23 ⟨by decide, by decide⟩ ?_
    exact hj62 _ h _
  refine rs_iceq (tg := 22) wi_457_8 ⟨by decide, by decide⟩ (fun q => ?_) (fun q => ?_)
  ·
    have h := wp_pos h q
    exact hj22 _ h _
  ·
    have h := wp_neg h q
    refine rs_aldn wi_457_11 l0 ?_
    refine dq_gr wi_457_12 wf_457_185 tf_174_49 ?_
    refine rs_ildn wi_457_15 l1 ?_
    obtain ⟨g4, h⟩ := wp_gd h
    refine dq_iald wi_457_16 t_211 g4 ?_
    refine rs_pure wi_457_17 rfl ?_
    refine rs_topi (v := 21) (by decide) ?_
    refine rs_icne (tg := 26) wi_457_19 ⟨by decide, by decide⟩ (fun q => ?_) (fun q => ?_)
    ·
      have h := wp_neg h q
      refine rs_aldn wi_457_26 l0 ?_
      refine dq_gr wi_457_27 wf_457_185 tf_174_49 ?_
      refine rs_ildn wi_457_30 l1 ?_
      obtain ⟨g5, h⟩ := wp_gd h
      refine dq_iald wi_457_31 t_211 g5 ?_
      refine rs_pure wi_457_32 rfl ?_
      refine rs_topi (v := 20) (by decide) ?_
      refine rs_icne (tg := 61) wi_457_34 ⟨by decide, by decide⟩ (fun q => ?_) (fun q => ?_)
      ·
        have h := wp_neg h q
        refine rs_pure wi_457_61 rfl ?_
        refine rs_topi (v := 0) (by decide) ?_
        exact hj62 _ h _
      ·
        have h := wp_pos h q
        refine rs_aldn wi_457_37 l0 ?_
        refine dq_gr wi_457_38 wf_457_173 tf_174_45 ?_
        refine rs_pure wi_457_41 rfl ?_
        refine rs_topi (v := 8) (by decide) ?_
        refine rs_aldn wi_457_43 l0 ?_
        refine dq_gr wi_457_44 wf_457_194 tf_174_52 ?_
        refine rs_ildn wi_457_47 l1 ?_
        obtain ⟨g6, h⟩ := wp_gd h
        refine dq_iald wi_457_48 t_214 g6 ?_
        refine rs_pure wi_457_49 rfl ?_
        refine rs_aldn wi_457_50 l0 ?_
        refine dq_gr wi_457_51 wf_457_197 tf_174_53 ?_
        refine rs_ildn wi_457_54 l1 ?_
        obtain ⟨g7, h⟩ := wp_gd h
        refine dq_iald wi_457_55 t_215 g7 ?_
        refine rs_pure wi_457_56 rfl ?_
        obtain ⟨g8, h⟩ := wp_gd h
        refine dq_iald wi_457_57 t_207 g8 ?_
        refine rs_goto (tg := 62) wi_457_58 ⟨by decide, by decide⟩ ?_
        exact hj62 _ h _
    ·
      have h := wp_pos h q
      exact hj22 _ h _
set_option maxRecDepth 100000 in
theorem wa_15_457 : rz_cn 15 (rx_yn (rt_P sc fm) 457).cls = true := (by decide +kernel : rz_cn 15 (rt_yn 457).cls = true)
set_option maxRecDepth 100000 in
theorem wc_459_853 : rx_ct (rt_P sc fm) 459 853 = some (0, 457, 1) := (by decide +kernel : rt_ct 459 853 = some (0, 457, 1))
set_option maxRecDepth 100000 in
theorem wf_459_185 : rx_ft (rt_P sc fm) 459 185 = some (15, 49) := (by decide +kernel : rt_ft 459 185 = some (15, 49))
theorem wi_459_0 : ri (rt_P sc fm) 459 0 (.aload_n 0) (1) := ri_of (by decide +kernel) rfl
theorem wi_459_1 : ri (rt_P sc fm) 459 1 (.getfield 185) (4) := ri_of (by decide +kernel) rfl
theorem wi_459_11 : ri (rt_P sc fm) 459 11 (.aload_n 0) (12) := ri_of (by decide +kernel) rfl
theorem wi_459_12 : ri (rt_P sc fm) 459 12 (.iload_n 1) (13) := ri_of (by decide +kernel) rfl
theorem wi_459_13 : ri (rt_P sc fm) 459 13 (.invokevirtual 853) (16) := ri_of (by decide +kernel) rfl
theorem wi_459_16 : ri (rt_P sc fm) 459 16 (.iconst 1) (17) := ri_of (by decide +kernel) rfl
theorem wi_459_17 : ri (rt_P sc fm) 459 17 (.isub) (18) := ri_of (by decide +kernel) rfl
theorem wi_459_18 : ri (rt_P sc fm) 459 18 (.iload_n 2) (19) := ri_of (by decide +kernel) rfl
theorem wi_459_19 : ri (rt_P sc fm) 459 19 (.isub) (20) := ri_of (by decide +kernel) rfl
theorem wi_459_20 : ri (rt_P sc fm) 459 20 (.goto 4) (23) := ri_of (by decide +kernel) rfl
theorem wi_459_23 : ri (rt_P sc fm) 459 23 (.iconst 0) (24) := ri_of (by decide +kernel) rfl
theorem wi_459_24 : ri (rt_P sc fm) 459 24 (.ireturn) (25) := ri_of (by decide +kernel) rfl
theorem wi_459_4 : ri (rt_P sc fm) 459 4 (.iload_n 1) (5) := ri_of (by decide +kernel) rfl
theorem wi_459_5 : ri (rt_P sc fm) 459 5 (.iaload) (6) := ri_of (by decide +kernel) rfl
theorem wi_459_6 : ri (rt_P sc fm) 459 6 (.bipush 20) (8) := ri_of (by decide +kernel) rfl
theorem wi_459_8 : ri (rt_P sc fm) 459 8 (.if_icmp .ne 15) (11) := ri_of (by decide +kernel) rfl
set_option maxRecDepth 100000 in
theorem wm_457 : rx_ml (rt_P sc fm) 457 = 2 := (by decide +kernel : rt_ml 457 = 2)
set_option maxRecDepth 100000 in
theorem wr_459 : rx_rt (rt_P sc fm) 459 = (some FieldType.int) := (by decide +kernel : rt_rt 459 = (some FieldType.int))
/-- MarkHouseModel.fromTop(II)I -/
def d_459 (n : Nat) (a1 : Int32) (a2 : Int32) (c : cS) : Option (Int32) :=
  if ib a1 3840 then
  jn (fun p2 : Int32 =>
    some p2)
  (fun j24 =>
  if (c.1 211 (ix a1)) = 20 then
    Option.bind (d_457 n a1 c) (fun v3 =>
    j24 ((v3 - 1) - a2))
  else
    j24 0)
  else none
set_option maxRecDepth 100000 in
set_option maxHeartbeats 4000000 in
theorem sp_459 {F Lo n : Nat} {a1 : Int32} {a2 : Int32} {c y : cS} {w : cW} {K : Int32 → Prop} {Q : ((Option Value) ⊕ String) → List va_E → Prop} (hw : rOK fm w) (hF : 1 ≤ F) (hLo : 21 ≤ Lo)  (h : wp (d_459 n a1 a2 c) K) (hQ : ∀ r, K r → Q (.inl (some (.int r))) (hq false c y w)) : rs (rt_P sc fm) 459 F Lo 0 [(0, .ref 174), (1, .int a1), (2, .int a2)] [] (hq false c y w) Q := by
  unfold d_459 at h
  obtain ⟨lv, elv⟩ : ∃ lv : rx_L, lv = [(0, .ref 174), (1, .int a1), (2, .int a2)] := ⟨_, rfl⟩
  rw [← elv]
  have l0 : rx_ld lv 0 = some (.ref 174) := by rw [elv]; rfl
  have l1 : rx_ld lv 1 = some (.int a1) := by rw [elv]; rfl
  have l2 : rx_ld lv 2 = some (.int a2) := by rw [elv]; rfl
  refine rs_aldn wi_459_0 l0 ?_
  refine dq_gr wi_459_1 wf_459_185 tf_174_49 ?_
  refine rs_ildn wi_459_4 l1 ?_
  obtain ⟨g1, h⟩ := wp_gd h
  refine dq_iald wi_459_5 t_211 g1 ?_
  refine rs_pure wi_459_6 rfl ?_
  refine rs_topi (v := 20) (by decide) ?_
  refine wp_jn (B := fun p2 : Int32 => ∀ lv, rs (rt_P sc fm) 459 F Lo 24 lv [.int p2] (hq false c y w) Q) h (fun p2 h lv => ?_) (fun j24 hj24 h => ?_)
  ·
    exact rs_iret wi_459_24 wr_459 rfl (hQ p2 h)
  refine rs_icne (tg := 23) wi_459_8 ⟨by decide, by decide⟩ (fun q => ?_) (fun q => ?_)
  ·
    have h := wp_neg h q
    refine rs_pure wi_459_23 rfl ?_
    refine rs_topi (v := 0) (by decide) ?_
    exact hj24 _ h _
  ·
    have h := wp_pos h q
    refine rs_aldn wi_459_11 l0 ?_
    refine rs_ildn wi_459_12 l1 ?_
    refine rs_V wi_459_13 wc_459_853 rfl (dq_isa tf_174_0 wa_15_457) (Nat.le_trans (by decide) hF) (ml_le wm_457 (Nat.le_trans (by decide) hLo)) rfl (sp_457 hw (Nat.le_trans (by decide : 0 ≤ 1 - 1) (Nat.sub_le_sub_right hF 1)) (ml_sub wm_457 (Nat.le_trans (by decide : 0 ≤ 21 - 21) (Nat.sub_le_sub_right hLo 21))) (wp_bind h) (fun v3 h => rs_back1 ?_))
    refine rs_pure wi_459_16 rfl ?_
    refine rs_topi (v := 1) (by decide) ?_
    refine rs_pure wi_459_17 rfl ?_
    refine rs_ildn wi_459_18 l2 ?_
    refine rs_pure wi_459_19 rfl ?_
    refine rs_goto (tg := 24) wi_459_20 ⟨by decide, by decide⟩ ?_
    exact hj24 _ h _
set_option maxRecDepth 100000 in
theorem wc_458_661 : rx_ct (rt_P sc fm) 458 661 = some (1, 422, 1) := (by decide +kernel : rt_ct 458 661 = some (1, 422, 1))
set_option maxRecDepth 100000 in
theorem wc_458_838 : rx_ct (rt_P sc fm) 458 838 = some (1, 451, 2) := (by decide +kernel : rt_ct 458 838 = some (1, 451, 2))
set_option maxRecDepth 100000 in
theorem wf_458_185 : rx_ft (rt_P sc fm) 458 185 = some (15, 49) := (by decide +kernel : rt_ft 458 185 = some (15, 49))
set_option maxRecDepth 100000 in
theorem wf_458_194 : rx_ft (rt_P sc fm) 458 194 = some (15, 52) := (by decide +kernel : rt_ft 458 194 = some (15, 52))
set_option maxRecDepth 100000 in
theorem wf_458_197 : rx_ft (rt_P sc fm) 458 197 = some (15, 53) := (by decide +kernel : rt_ft 458 197 = some (15, 53))
theorem wi_458_0 : ri (rt_P sc fm) 458 0 (.aload_n 0) (1) := ri_of (by decide +kernel) rfl
theorem wi_458_1 : ri (rt_P sc fm) 458 1 (.getfield 185) (4) := ri_of (by decide +kernel) rfl
theorem wi_458_11 : ri (rt_P sc fm) 458 11 (.aload_n 0) (12) := ri_of (by decide +kernel) rfl
theorem wi_458_12 : ri (rt_P sc fm) 458 12 (.getfield 194) (15) := ri_of (by decide +kernel) rfl
theorem wi_458_15 : ri (rt_P sc fm) 458 15 (.iload_n 2) (16) := ri_of (by decide +kernel) rfl
theorem wi_458_16 : ri (rt_P sc fm) 458 16 (.iaload) (17) := ri_of (by decide +kernel) rfl
theorem wi_458_17 : ri (rt_P sc fm) 458 17 (.aload_n 0) (18) := ri_of (by decide +kernel) rfl
theorem wi_458_18 : ri (rt_P sc fm) 458 18 (.getfield 197) (21) := ri_of (by decide +kernel) rfl
theorem wi_458_21 : ri (rt_P sc fm) 458 21 (.iload_n 2) (22) := ri_of (by decide +kernel) rfl
theorem wi_458_22 : ri (rt_P sc fm) 458 22 (.iaload) (23) := ri_of (by decide +kernel) rfl
theorem wi_458_23 : ri (rt_P sc fm) 458 23 (.invokestatic 838) (26) := ri_of (by decide +kernel) rfl
theorem wi_458_26 : ri (rt_P sc fm) 458 26 (.goto 44) (29) := ri_of (by decide +kernel) rfl
theorem wi_458_29 : ri (rt_P sc fm) 458 29 (.aload_n 0) (30) := ri_of (by decide +kernel) rfl
theorem wi_458_30 : ri (rt_P sc fm) 458 30 (.getfield 185) (33) := ri_of (by decide +kernel) rfl
theorem wi_458_33 : ri (rt_P sc fm) 458 33 (.iload_n 2) (34) := ri_of (by decide +kernel) rfl
theorem wi_458_34 : ri (rt_P sc fm) 458 34 (.iaload) (35) := ri_of (by decide +kernel) rfl
theorem wi_458_35 : ri (rt_P sc fm) 458 35 (.bipush 21) (37) := ri_of (by decide +kernel) rfl
theorem wi_458_37 : ri (rt_P sc fm) 458 37 (.if_icmp .ne 10) (40) := ri_of (by decide +kernel) rfl
theorem wi_458_4 : ri (rt_P sc fm) 458 4 (.iload_n 2) (5) := ri_of (by decide +kernel) rfl
theorem wi_458_40 : ri (rt_P sc fm) 458 40 (.iload_n 1) (41) := ri_of (by decide +kernel) rfl
theorem wi_458_41 : ri (rt_P sc fm) 458 41 (.invokestatic 661) (44) := ri_of (by decide +kernel) rfl
theorem wi_458_44 : ri (rt_P sc fm) 458 44 (.goto 26) (47) := ri_of (by decide +kernel) rfl
theorem wi_458_47 : ri (rt_P sc fm) 458 47 (.bipush 8) (49) := ri_of (by decide +kernel) rfl
theorem wi_458_49 : ri (rt_P sc fm) 458 49 (.aload_n 0) (50) := ri_of (by decide +kernel) rfl
theorem wi_458_5 : ri (rt_P sc fm) 458 5 (.iaload) (6) := ri_of (by decide +kernel) rfl
theorem wi_458_50 : ri (rt_P sc fm) 458 50 (.getfield 194) (53) := ri_of (by decide +kernel) rfl
theorem wi_458_53 : ri (rt_P sc fm) 458 53 (.iload_n 2) (54) := ri_of (by decide +kernel) rfl
theorem wi_458_54 : ri (rt_P sc fm) 458 54 (.iaload) (55) := ri_of (by decide +kernel) rfl
theorem wi_458_55 : ri (rt_P sc fm) 458 55 (.imul) (56) := ri_of (by decide +kernel) rfl
theorem wi_458_56 : ri (rt_P sc fm) 458 56 (.aload_n 0) (57) := ri_of (by decide +kernel) rfl
theorem wi_458_57 : ri (rt_P sc fm) 458 57 (.getfield 197) (60) := ri_of (by decide +kernel) rfl
theorem wi_458_6 : ri (rt_P sc fm) 458 6 (.bipush 19) (8) := ri_of (by decide +kernel) rfl
theorem wi_458_60 : ri (rt_P sc fm) 458 60 (.iload_n 2) (61) := ri_of (by decide +kernel) rfl
theorem wi_458_61 : ri (rt_P sc fm) 458 61 (.iaload) (62) := ri_of (by decide +kernel) rfl
theorem wi_458_62 : ri (rt_P sc fm) 458 62 (.iadd) (63) := ri_of (by decide +kernel) rfl
theorem wi_458_63 : ri (rt_P sc fm) 458 63 (.invokestatic 661) (66) := ri_of (by decide +kernel) rfl
theorem wi_458_66 : ri (rt_P sc fm) 458 66 (.iconst 1) (67) := ri_of (by decide +kernel) rfl
theorem wi_458_67 : ri (rt_P sc fm) 458 67 (.iadd) (68) := ri_of (by decide +kernel) rfl
theorem wi_458_68 : ri (rt_P sc fm) 458 68 (.iload_n 3) (69) := ri_of (by decide +kernel) rfl
theorem wi_458_69 : ri (rt_P sc fm) 458 69 (.iadd) (70) := ri_of (by decide +kernel) rfl
theorem wi_458_70 : ri (rt_P sc fm) 458 70 (.ireturn) (71) := ri_of (by decide +kernel) rfl
theorem wi_458_8 : ri (rt_P sc fm) 458 8 (.if_icmp .ne 21) (11) := ri_of (by decide +kernel) rfl
set_option maxRecDepth 100000 in
theorem wr_458 : rx_rt (rt_P sc fm) 458 = (some FieldType.int) := (by decide +kernel : rt_rt 458 = (some FieldType.int))
/-- MarkHouseModel.wantedAt(III)I -/
def d_458 (n : Nat) (a1 : Int32) (a2 : Int32) (a3 : Int32) (c : cS) : Option (Int32) :=
  if ib a2 3840 then
  jn (fun p2 : Int32 =>
    some p2)
  (fun j70 =>
  if (c.1 211 (ix a2)) = 19 then
    if ib a2 3840 then
    if ib a2 3840 then
    Option.bind (d_451 n (c.1 214 (ix a2)) (c.1 215 (ix a2))) (fun v10 =>
    j70 v10)
    else none
    else none
  else
    if ib a2 3840 then
    if (c.1 211 (ix a2)) = 21 then
      Option.bind (d_422 n a1) (fun v7 =>
      j70 v7)
    else
      if ib a2 3840 then
      if ib a2 3840 then
      Option.bind (d_422 n ((8 * (c.1 214 (ix a2))) + (c.1 215 (ix a2)))) (fun v6 =>
      j70 ((v6 + 1) + a3))
      else none
      else none
    else none)
  else none
set_option maxRecDepth 100000 in
set_option maxHeartbeats 4000000 in
theorem sp_458 {F Lo n : Nat} {a1 : Int32} {a2 : Int32} {a3 : Int32} {c y : cS} {w : cW} {K : Int32 → Prop} {Q : ((Option Value) ⊕ String) → List va_E → Prop} (hw : rOK fm w) (hF : 1 ≤ F) (hLo : 21 ≤ Lo)  (h : wp (d_458 n a1 a2 a3 c) K) (hQ : ∀ r, K r → Q (.inl (some (.int r))) (hq false c y w)) : rs (rt_P sc fm) 458 F Lo 0 [(0, .ref 174), (1, .int a1), (2, .int a2), (3, .int a3)] [] (hq false c y w) Q := by
  unfold d_458 at h
  obtain ⟨lv, elv⟩ : ∃ lv : rx_L, lv = [(0, .ref 174), (1, .int a1), (2, .int a2), (3, .int a3)] := ⟨_, rfl⟩
  rw [← elv]
  have l0 : rx_ld lv 0 = some (.ref 174) := by rw [elv]; rfl
  have l1 : rx_ld lv 1 = some (.int a1) := by rw [elv]; rfl
  have l2 : rx_ld lv 2 = some (.int a2) := by rw [elv]; rfl
  have l3 : rx_ld lv 3 = some (.int a3) := by rw [elv]; rfl
  refine rs_aldn wi_458_0 l0 ?_
  refine dq_gr wi_458_1 wf_458_185 tf_174_49 ?_
  refine rs_ildn wi_458_4 l2 ?_
  obtain ⟨g1, h⟩ := wp_gd h
  refine dq_iald wi_458_5 t_211 g1 ?_
  refine rs_pure wi_458_6 rfl ?_
  refine rs_topi (v := 19) (by decide) ?_
  refine wp_jn (B := fun p2 : Int32 => ∀ lv, rs (rt_P sc fm) 458 F Lo 70 lv [.int p2] (hq false c y w) Q) h (fun p2 h lv => ?_) (fun j70 hj70 h => ?_)
  ·
    exact rs_iret wi_458_70 wr_458 rfl (hQ p2 h)
  refine rs_icne (tg := 29) wi_458_8 ⟨by decide, by decide⟩ (fun q => ?_) (fun q => ?_)
  ·
    have h := wp_neg h q
    refine rs_aldn wi_458_29 l0 ?_
    refine dq_gr wi_458_30 wf_458_185 tf_174_49 ?_
    refine rs_ildn wi_458_33 l2 ?_
    obtain ⟨g3, h⟩ := wp_gd h
    refine dq_iald wi_458_34 t_211 g3 ?_
    refine rs_pure wi_458_35 rfl ?_
    refine rs_topi (v := 21) (by decide) ?_
    refine rs_icne (tg := 47) wi_458_37 ⟨by decide, by decide⟩ (fun q => ?_) (fun q => ?_)
    ·
      have h := wp_neg h q
      refine rs_pure wi_458_47 rfl ?_
      refine rs_topi (v := 8) (by decide) ?_
      refine rs_aldn wi_458_49 l0 ?_
      refine dq_gr wi_458_50 wf_458_194 tf_174_52 ?_
      refine rs_ildn wi_458_53 l2 ?_
      obtain ⟨g4, h⟩ := wp_gd h
      refine dq_iald wi_458_54 t_214 g4 ?_
      refine rs_pure wi_458_55 rfl ?_
      refine rs_aldn wi_458_56 l0 ?_
      refine dq_gr wi_458_57 wf_458_197 tf_174_53 ?_
      refine rs_ildn wi_458_60 l2 ?_
      obtain ⟨g5, h⟩ := wp_gd h
      refine dq_iald wi_458_61 t_215 g5 ?_
      refine rs_pure wi_458_62 rfl ?_
      refine rs_S wi_458_63 wc_458_661 (Or.inl rfl) rfl (Nat.le_trans (by decide) hF) (ml_le wm_422 (Nat.le_trans (by decide) hLo)) rfl (sp_422 (Nat.le_trans (by decide : 0 ≤ 1 - 1) (Nat.sub_le_sub_right hF 1)) (ml_sub wm_422 (Nat.le_trans (by decide : 0 ≤ 21 - 20) (Nat.sub_le_sub_right hLo 20))) (wp_bind h) (fun v6 h => rs_back1 ?_))
      refine rs_pure wi_458_66 rfl ?_
      refine rs_topi (v := 1) (by decide) ?_
      refine rs_pure wi_458_67 rfl ?_
      refine rs_ildn wi_458_68 l3 ?_
      refine rs_pure wi_458_69 rfl ?_
      exact hj70 _ h _
    ·
      have h := wp_pos h q
      refine rs_ildn wi_458_40 l1 ?_
      refine rs_S wi_458_41 wc_458_661 (Or.inl rfl) rfl (Nat.le_trans (by decide) hF) (ml_le wm_422 (Nat.le_trans (by decide) hLo)) rfl (sp_422 (Nat.le_trans (by decide : 0 ≤ 1 - 1) (Nat.sub_le_sub_right hF 1)) (ml_sub wm_422 (Nat.le_trans (by decide : 0 ≤ 21 - 20) (Nat.sub_le_sub_right hLo 20))) (wp_bind h) (fun v7 h => rs_back1 ?_))
      refine rs_goto (tg := 70) wi_458_44 ⟨by decide, by decide⟩ ?_
      exact hj70 _ h _
  ·
    have h := wp_pos h q
    refine rs_aldn wi_458_11 l0 ?_
    refine dq_gr wi_458_12 wf_458_194 tf_174_52 ?_
    refine rs_ildn wi_458_15 l2 ?_
    obtain ⟨g8, h⟩ := wp_gd h
    refine dq_iald wi_458_16 t_214 g8 ?_
    refine rs_aldn wi_458_17 l0 ?_
    refine dq_gr wi_458_18 wf_458_197 tf_174_53 ?_
    refine rs_ildn wi_458_21 l2 ?_
    obtain ⟨g9, h⟩ := wp_gd h
    refine dq_iald wi_458_22 t_215 g9 ?_
    refine rs_S wi_458_23 wc_458_838 (Or.inl rfl) rfl (Nat.le_trans (by decide) hF) (ml_le wm_451 (Nat.le_trans (by decide) hLo)) rfl (sp_451 (Nat.le_trans (by decide : 0 ≤ 1 - 1) (Nat.sub_le_sub_right hF 1)) (ml_sub wm_451 (Nat.le_trans (by decide : 0 ≤ 21 - 21) (Nat.sub_le_sub_right hLo 21))) (wp_bind h) (fun v10 h => rs_back1 ?_))
    refine rs_goto (tg := 70) wi_458_26 ⟨by decide, by decide⟩ ?_
    exact hj70 _ h _
theorem t_241 : ta false 241 0 15360 := ⟨rfl, by decide, by decide⟩
theorem t_242 : ta false 242 0 15360 := ⟨rfl, by decide, by decide⟩
theorem t_243 : ta false 243 0 15360 := ⟨rfl, by decide, by decide⟩
theorem t_244 : ta false 244 0 15360 := ⟨rfl, by decide, by decide⟩
theorem t_245 : ta false 245 0 15360 := ⟨rfl, by decide, by decide⟩
theorem tf_174_91 : fo false 174 15 91 (.int 0) := ⟨_, rfl, rfl, by decide, by decide⟩
theorem tf_174_92 : fo false 174 15 92 (.ref 241) := ⟨_, rfl, rfl, by decide, by decide⟩
theorem tf_174_93 : fo false 174 15 93 (.ref 242) := ⟨_, rfl, rfl, by decide, by decide⟩
theorem tf_174_94 : fo false 174 15 94 (.ref 243) := ⟨_, rfl, rfl, by decide, by decide⟩
theorem tf_174_95 : fo false 174 15 95 (.ref 244) := ⟨_, rfl, rfl, by decide, by decide⟩
theorem tf_174_96 : fo false 174 15 96 (.ref 245) := ⟨_, rfl, rfl, by decide, by decide⟩
set_option maxRecDepth 100000 in
theorem wa_15_450 : rz_cn 15 (rx_yn (rt_P sc fm) 450).cls = true := (by decide +kernel : rz_cn 15 (rt_yn 450).cls = true)
set_option maxRecDepth 100000 in
theorem wa_15_456 : rz_cn 15 (rx_yn (rt_P sc fm) 456).cls = true := (by decide +kernel : rz_cn 15 (rt_yn 456).cls = true)
set_option maxRecDepth 100000 in
theorem wa_15_458 : rz_cn 15 (rx_yn (rt_P sc fm) 458).cls = true := (by decide +kernel : rz_cn 15 (rt_yn 458).cls = true)
set_option maxRecDepth 100000 in
theorem wa_15_459 : rz_cn 15 (rx_yn (rt_P sc fm) 459).cls = true := (by decide +kernel : rz_cn 15 (rt_yn 459).cls = true)
set_option maxRecDepth 100000 in
theorem wc_460_535 : rx_ct (rt_P sc fm) 460 535 = some (0, 387, 3) := (by decide +kernel : rt_ct 460 535 = some (0, 387, 3))
set_option maxRecDepth 100000 in
theorem wc_460_614 : rx_ct (rt_P sc fm) 460 614 = some (0, 105, 1) := (by decide +kernel : rt_ct 460 614 = some (0, 105, 1))
set_option maxRecDepth 100000 in
theorem wc_460_853 : rx_ct (rt_P sc fm) 460 853 = some (0, 457, 1) := (by decide +kernel : rt_ct 460 853 = some (0, 457, 1))
set_option maxRecDepth 100000 in
theorem wc_460_856 : rx_ct (rt_P sc fm) 460 856 = some (0, 450, 1) := (by decide +kernel : rt_ct 460 856 = some (0, 450, 1))
set_option maxRecDepth 100000 in
theorem wc_460_862 : rx_ct (rt_P sc fm) 460 862 = some (0, 456, 2) := (by decide +kernel : rt_ct 460 862 = some (0, 456, 2))
set_option maxRecDepth 100000 in
theorem wc_460_865 : rx_ct (rt_P sc fm) 460 865 = some (0, 459, 2) := (by decide +kernel : rt_ct 460 865 = some (0, 459, 2))
set_option maxRecDepth 100000 in
theorem wc_460_868 : rx_ct (rt_P sc fm) 460 868 = some (0, 458, 3) := (by decide +kernel : rt_ct 460 868 = some (0, 458, 3))
set_option maxRecDepth 100000 in
theorem wf_460_182 : rx_ft (rt_P sc fm) 460 182 = some (15, 48) := (by decide +kernel : rt_ft 460 182 = some (15, 48))
set_option maxRecDepth 100000 in
theorem wf_460_243 : rx_ft (rt_P sc fm) 460 243 = some (15, 70) := (by decide +kernel : rt_ft 460 243 = some (15, 70))
set_option maxRecDepth 100000 in
theorem wf_460_261 : rx_ft (rt_P sc fm) 460 261 = some (15, 85) := (by decide +kernel : rt_ft 460 261 = some (15, 85))
set_option maxRecDepth 100000 in
theorem wf_460_268 : rx_ft (rt_P sc fm) 460 268 = some (15, 87) := (by decide +kernel : rt_ft 460 268 = some (15, 87))
set_option maxRecDepth 100000 in
theorem wf_460_271 : rx_ft (rt_P sc fm) 460 271 = some (15, 88) := (by decide +kernel : rt_ft 460 271 = some (15, 88))
set_option maxRecDepth 100000 in
theorem wf_460_277 : rx_ft (rt_P sc fm) 460 277 = some (15, 92) := (by decide +kernel : rt_ft 460 277 = some (15, 92))
set_option maxRecDepth 100000 in
theorem wf_460_280 : rx_ft (rt_P sc fm) 460 280 = some (15, 93) := (by decide +kernel : rt_ft 460 280 = some (15, 93))
set_option maxRecDepth 100000 in
theorem wf_460_283 : rx_ft (rt_P sc fm) 460 283 = some (15, 94) := (by decide +kernel : rt_ft 460 283 = some (15, 94))
set_option maxRecDepth 100000 in
theorem wf_460_286 : rx_ft (rt_P sc fm) 460 286 = some (15, 95) := (by decide +kernel : rt_ft 460 286 = some (15, 95))
set_option maxRecDepth 100000 in
theorem wf_460_289 : rx_ft (rt_P sc fm) 460 289 = some (15, 96) := (by decide +kernel : rt_ft 460 289 = some (15, 96))
set_option maxRecDepth 100000 in
theorem wf_460_859 : rx_ft (rt_P sc fm) 460 859 = some (15, 91) := (by decide +kernel : rt_ft 460 859 = some (15, 91))
theorem wi_460_0 : ri (rt_P sc fm) 460 0 (.aload_n 0) (1) := ri_of (by decide +kernel) rfl
theorem wi_460_1 : ri (rt_P sc fm) 460 1 (.iload_n 1) (2) := ri_of (by decide +kernel) rfl
theorem wi_460_10 : ri (rt_P sc fm) 460 10 (.iconst 0) (11) := ri_of (by decide +kernel) rfl
theorem wi_460_100 : ri (rt_P sc fm) 460 100 (.isub) (101) := ri_of (by decide +kernel) rfl
theorem wi_460_101 : ri (rt_P sc fm) 460 101 (.aload_n 0) (102) := ri_of (by decide +kernel) rfl
theorem wi_460_102 : ri (rt_P sc fm) 460 102 (.iload 4) (104) := ri_of (by decide +kernel) rfl
theorem wi_460_104 : ri (rt_P sc fm) 460 104 (.iload 5) (106) := ri_of (by decide +kernel) rfl
theorem wi_460_106 : ri (rt_P sc fm) 460 106 (.invokevirtual 865) (109) := ri_of (by decide +kernel) rfl
theorem wi_460_109 : ri (rt_P sc fm) 460 109 (.isub) (110) := ri_of (by decide +kernel) rfl
theorem wi_460_11 : ri (rt_P sc fm) 460 11 (.istore_n 2) (12) := ri_of (by decide +kernel) rfl
theorem wi_460_110 : ri (rt_P sc fm) 460 110 (.iaload) (111) := ri_of (by decide +kernel) rfl
theorem wi_460_111 : ri (rt_P sc fm) 460 111 (.istore 6) (113) := ri_of (by decide +kernel) rfl
theorem wi_460_113 : ri (rt_P sc fm) 460 113 (.aload_n 0) (114) := ri_of (by decide +kernel) rfl
theorem wi_460_114 : ri (rt_P sc fm) 460 114 (.getfield 261) (117) := ri_of (by decide +kernel) rfl
theorem wi_460_117 : ri (rt_P sc fm) 460 117 (.aload_n 0) (118) := ri_of (by decide +kernel) rfl
theorem wi_460_118 : ri (rt_P sc fm) 460 118 (.iload_n 2) (119) := ri_of (by decide +kernel) rfl
theorem wi_460_119 : ri (rt_P sc fm) 460 119 (.iload 4) (121) := ri_of (by decide +kernel) rfl
theorem wi_460_12 : ri (rt_P sc fm) 460 12 (.iload_n 2) (13) := ri_of (by decide +kernel) rfl
theorem wi_460_121 : ri (rt_P sc fm) 460 121 (.iload 5) (123) := ri_of (by decide +kernel) rfl
theorem wi_460_123 : ri (rt_P sc fm) 460 123 (.invokevirtual 868) (126) := ri_of (by decide +kernel) rfl
theorem wi_460_126 : ri (rt_P sc fm) 460 126 (.iaload) (127) := ri_of (by decide +kernel) rfl
theorem wi_460_127 : ri (rt_P sc fm) 460 127 (.istore 7) (129) := ri_of (by decide +kernel) rfl
theorem wi_460_129 : ri (rt_P sc fm) 460 129 (.aload_n 0) (130) := ri_of (by decide +kernel) rfl
theorem wi_460_13 : ri (rt_P sc fm) 460 13 (.bipush 96) (15) := ri_of (by decide +kernel) rfl
theorem wi_460_130 : ri (rt_P sc fm) 460 130 (.iload_n 1) (131) := ri_of (by decide +kernel) rfl
theorem wi_460_131 : ri (rt_P sc fm) 460 131 (.iload 6) (133) := ri_of (by decide +kernel) rfl
theorem wi_460_133 : ri (rt_P sc fm) 460 133 (.iload 7) (135) := ri_of (by decide +kernel) rfl
theorem wi_460_135 : ri (rt_P sc fm) 460 135 (.invokevirtual 535) (138) := ri_of (by decide +kernel) rfl
theorem wi_460_138 : ri (rt_P sc fm) 460 138 (.ifCond .eq 6) (141) := ri_of (by decide +kernel) rfl
theorem wi_460_141 : ri (rt_P sc fm) 460 141 (.goto 66) (144) := ri_of (by decide +kernel) rfl
theorem wi_460_144 : ri (rt_P sc fm) 460 144 (.aload_n 0) (145) := ri_of (by decide +kernel) rfl
theorem wi_460_145 : ri (rt_P sc fm) 460 145 (.getfield 277) (148) := ri_of (by decide +kernel) rfl
theorem wi_460_148 : ri (rt_P sc fm) 460 148 (.aload_n 0) (149) := ri_of (by decide +kernel) rfl
theorem wi_460_149 : ri (rt_P sc fm) 460 149 (.getfield 859) (152) := ri_of (by decide +kernel) rfl
theorem wi_460_15 : ri (rt_P sc fm) 460 15 (.if_icmp .ge 210) (18) := ri_of (by decide +kernel) rfl
theorem wi_460_152 : ri (rt_P sc fm) 460 152 (.iload_n 2) (153) := ri_of (by decide +kernel) rfl
theorem wi_460_153 : ri (rt_P sc fm) 460 153 (.iastore) (154) := ri_of (by decide +kernel) rfl
theorem wi_460_154 : ri (rt_P sc fm) 460 154 (.aload_n 0) (155) := ri_of (by decide +kernel) rfl
theorem wi_460_155 : ri (rt_P sc fm) 460 155 (.getfield 280) (158) := ri_of (by decide +kernel) rfl
theorem wi_460_158 : ri (rt_P sc fm) 460 158 (.aload_n 0) (159) := ri_of (by decide +kernel) rfl
theorem wi_460_159 : ri (rt_P sc fm) 460 159 (.getfield 859) (162) := ri_of (by decide +kernel) rfl
theorem wi_460_162 : ri (rt_P sc fm) 460 162 (.iload_n 3) (163) := ri_of (by decide +kernel) rfl
theorem wi_460_163 : ri (rt_P sc fm) 460 163 (.iastore) (164) := ri_of (by decide +kernel) rfl
theorem wi_460_164 : ri (rt_P sc fm) 460 164 (.aload_n 0) (165) := ri_of (by decide +kernel) rfl
theorem wi_460_165 : ri (rt_P sc fm) 460 165 (.getfield 283) (168) := ri_of (by decide +kernel) rfl
theorem wi_460_168 : ri (rt_P sc fm) 460 168 (.aload_n 0) (169) := ri_of (by decide +kernel) rfl
theorem wi_460_169 : ri (rt_P sc fm) 460 169 (.getfield 859) (172) := ri_of (by decide +kernel) rfl
theorem wi_460_172 : ri (rt_P sc fm) 460 172 (.iload 5) (174) := ri_of (by decide +kernel) rfl
theorem wi_460_174 : ri (rt_P sc fm) 460 174 (.iastore) (175) := ri_of (by decide +kernel) rfl
theorem wi_460_175 : ri (rt_P sc fm) 460 175 (.aload_n 0) (176) := ri_of (by decide +kernel) rfl
theorem wi_460_176 : ri (rt_P sc fm) 460 176 (.getfield 286) (179) := ri_of (by decide +kernel) rfl
theorem wi_460_179 : ri (rt_P sc fm) 460 179 (.aload_n 0) (180) := ri_of (by decide +kernel) rfl
theorem wi_460_18 : ri (rt_P sc fm) 460 18 (.aload_n 0) (19) := ri_of (by decide +kernel) rfl
theorem wi_460_180 : ri (rt_P sc fm) 460 180 (.getfield 859) (183) := ri_of (by decide +kernel) rfl
theorem wi_460_183 : ri (rt_P sc fm) 460 183 (.iload 6) (185) := ri_of (by decide +kernel) rfl
theorem wi_460_185 : ri (rt_P sc fm) 460 185 (.iastore) (186) := ri_of (by decide +kernel) rfl
theorem wi_460_186 : ri (rt_P sc fm) 460 186 (.aload_n 0) (187) := ri_of (by decide +kernel) rfl
theorem wi_460_187 : ri (rt_P sc fm) 460 187 (.getfield 289) (190) := ri_of (by decide +kernel) rfl
theorem wi_460_19 : ri (rt_P sc fm) 460 19 (.iload_n 2) (20) := ri_of (by decide +kernel) rfl
theorem wi_460_190 : ri (rt_P sc fm) 460 190 (.aload_n 0) (191) := ri_of (by decide +kernel) rfl
theorem wi_460_191 : ri (rt_P sc fm) 460 191 (.getfield 859) (194) := ri_of (by decide +kernel) rfl
theorem wi_460_194 : ri (rt_P sc fm) 460 194 (.iload 7) (196) := ri_of (by decide +kernel) rfl
theorem wi_460_196 : ri (rt_P sc fm) 460 196 (.iastore) (197) := ri_of (by decide +kernel) rfl
theorem wi_460_197 : ri (rt_P sc fm) 460 197 (.aload_n 0) (198) := ri_of (by decide +kernel) rfl
theorem wi_460_198 : ri (rt_P sc fm) 460 198 (.dup) (199) := ri_of (by decide +kernel) rfl
theorem wi_460_199 : ri (rt_P sc fm) 460 199 (.getfield 859) (202) := ri_of (by decide +kernel) rfl
theorem wi_460_2 : ri (rt_P sc fm) 460 2 (.invokevirtual 856) (5) := ri_of (by decide +kernel) rfl
theorem wi_460_20 : ri (rt_P sc fm) 460 20 (.invokevirtual 614) (23) := ri_of (by decide +kernel) rfl
theorem wi_460_202 : ri (rt_P sc fm) 460 202 (.iconst 1) (203) := ri_of (by decide +kernel) rfl
theorem wi_460_203 : ri (rt_P sc fm) 460 203 (.iadd) (204) := ri_of (by decide +kernel) rfl
theorem wi_460_204 : ri (rt_P sc fm) 460 204 (.putfield 859) (207) := ri_of (by decide +kernel) rfl
theorem wi_460_207 : ri (rt_P sc fm) 460 207 (.iinc 5 1) (210) := ri_of (by decide +kernel) rfl
theorem wi_460_210 : ri (rt_P sc fm) 460 210 (.goto (-152)) (213) := ri_of (by decide +kernel) rfl
theorem wi_460_213 : ri (rt_P sc fm) 460 213 (.iinc 3 1) (216) := ri_of (by decide +kernel) rfl
theorem wi_460_216 : ri (rt_P sc fm) 460 216 (.goto (-179)) (219) := ri_of (by decide +kernel) rfl
theorem wi_460_219 : ri (rt_P sc fm) 460 219 (.iinc 2 1) (222) := ri_of (by decide +kernel) rfl
theorem wi_460_222 : ri (rt_P sc fm) 460 222 (.goto (-210)) (225) := ri_of (by decide +kernel) rfl
theorem wi_460_225 : ri (rt_P sc fm) 460 225 (.return_) (226) := ri_of (by decide +kernel) rfl
theorem wi_460_23 : ri (rt_P sc fm) 460 23 (.ifCond .ne 6) (26) := ri_of (by decide +kernel) rfl
theorem wi_460_26 : ri (rt_P sc fm) 460 26 (.goto 193) (29) := ri_of (by decide +kernel) rfl
theorem wi_460_29 : ri (rt_P sc fm) 460 29 (.aload_n 0) (30) := ri_of (by decide +kernel) rfl
theorem wi_460_30 : ri (rt_P sc fm) 460 30 (.iload_n 2) (31) := ri_of (by decide +kernel) rfl
theorem wi_460_31 : ri (rt_P sc fm) 460 31 (.iload_n 1) (32) := ri_of (by decide +kernel) rfl
theorem wi_460_32 : ri (rt_P sc fm) 460 32 (.invokevirtual 862) (35) := ri_of (by decide +kernel) rfl
theorem wi_460_35 : ri (rt_P sc fm) 460 35 (.iconst 0) (36) := ri_of (by decide +kernel) rfl
theorem wi_460_36 : ri (rt_P sc fm) 460 36 (.istore_n 3) (37) := ri_of (by decide +kernel) rfl
theorem wi_460_37 : ri (rt_P sc fm) 460 37 (.iload_n 3) (38) := ri_of (by decide +kernel) rfl
theorem wi_460_38 : ri (rt_P sc fm) 460 38 (.aload_n 0) (39) := ri_of (by decide +kernel) rfl
theorem wi_460_39 : ri (rt_P sc fm) 460 39 (.getfield 182) (42) := ri_of (by decide +kernel) rfl
theorem wi_460_42 : ri (rt_P sc fm) 460 42 (.iload_n 2) (43) := ri_of (by decide +kernel) rfl
theorem wi_460_43 : ri (rt_P sc fm) 460 43 (.iaload) (44) := ri_of (by decide +kernel) rfl
theorem wi_460_44 : ri (rt_P sc fm) 460 44 (.if_icmp .ge 175) (47) := ri_of (by decide +kernel) rfl
theorem wi_460_47 : ri (rt_P sc fm) 460 47 (.bipush 40) (49) := ri_of (by decide +kernel) rfl
theorem wi_460_49 : ri (rt_P sc fm) 460 49 (.iload_n 2) (50) := ri_of (by decide +kernel) rfl
theorem wi_460_5 : ri (rt_P sc fm) 460 5 (.aload_n 0) (6) := ri_of (by decide +kernel) rfl
theorem wi_460_50 : ri (rt_P sc fm) 460 50 (.imul) (51) := ri_of (by decide +kernel) rfl
theorem wi_460_51 : ri (rt_P sc fm) 460 51 (.iload_n 3) (52) := ri_of (by decide +kernel) rfl
theorem wi_460_52 : ri (rt_P sc fm) 460 52 (.iadd) (53) := ri_of (by decide +kernel) rfl
theorem wi_460_53 : ri (rt_P sc fm) 460 53 (.istore 4) (55) := ri_of (by decide +kernel) rfl
theorem wi_460_55 : ri (rt_P sc fm) 460 55 (.iconst 0) (56) := ri_of (by decide +kernel) rfl
theorem wi_460_56 : ri (rt_P sc fm) 460 56 (.istore 5) (58) := ri_of (by decide +kernel) rfl
theorem wi_460_58 : ri (rt_P sc fm) 460 58 (.iload 5) (60) := ri_of (by decide +kernel) rfl
theorem wi_460_6 : ri (rt_P sc fm) 460 6 (.iconst 0) (7) := ri_of (by decide +kernel) rfl
theorem wi_460_60 : ri (rt_P sc fm) 460 60 (.aload_n 0) (61) := ri_of (by decide +kernel) rfl
theorem wi_460_61 : ri (rt_P sc fm) 460 61 (.iload 4) (63) := ri_of (by decide +kernel) rfl
theorem wi_460_63 : ri (rt_P sc fm) 460 63 (.invokevirtual 853) (66) := ri_of (by decide +kernel) rfl
theorem wi_460_66 : ri (rt_P sc fm) 460 66 (.if_icmp .ge 147) (69) := ri_of (by decide +kernel) rfl
theorem wi_460_69 : ri (rt_P sc fm) 460 69 (.aload_n 0) (70) := ri_of (by decide +kernel) rfl
theorem wi_460_7 : ri (rt_P sc fm) 460 7 (.putfield 859) (10) := ri_of (by decide +kernel) rfl
theorem wi_460_70 : ri (rt_P sc fm) 460 70 (.getfield 271) (73) := ri_of (by decide +kernel) rfl
theorem wi_460_73 : ri (rt_P sc fm) 460 73 (.iload 4) (75) := ri_of (by decide +kernel) rfl
theorem wi_460_75 : ri (rt_P sc fm) 460 75 (.baload) (76) := ri_of (by decide +kernel) rfl
theorem wi_460_76 : ri (rt_P sc fm) 460 76 (.ifCond .eq 137) (79) := ri_of (by decide +kernel) rfl
theorem wi_460_79 : ri (rt_P sc fm) 460 79 (.aload_n 0) (80) := ri_of (by decide +kernel) rfl
theorem wi_460_80 : ri (rt_P sc fm) 460 80 (.getfield 268) (83) := ri_of (by decide +kernel) rfl
theorem wi_460_83 : ri (rt_P sc fm) 460 83 (.bipush 16) (85) := ri_of (by decide +kernel) rfl
theorem wi_460_85 : ri (rt_P sc fm) 460 85 (.iload 4) (87) := ri_of (by decide +kernel) rfl
theorem wi_460_87 : ri (rt_P sc fm) 460 87 (.imul) (88) := ri_of (by decide +kernel) rfl
theorem wi_460_88 : ri (rt_P sc fm) 460 88 (.bipush 8) (90) := ri_of (by decide +kernel) rfl
theorem wi_460_90 : ri (rt_P sc fm) 460 90 (.iadd) (91) := ri_of (by decide +kernel) rfl
theorem wi_460_91 : ri (rt_P sc fm) 460 91 (.aload_n 0) (92) := ri_of (by decide +kernel) rfl
theorem wi_460_92 : ri (rt_P sc fm) 460 92 (.getfield 243) (95) := ri_of (by decide +kernel) rfl
theorem wi_460_95 : ri (rt_P sc fm) 460 95 (.iload 4) (97) := ri_of (by decide +kernel) rfl
theorem wi_460_97 : ri (rt_P sc fm) 460 97 (.iaload) (98) := ri_of (by decide +kernel) rfl
theorem wi_460_98 : ri (rt_P sc fm) 460 98 (.iadd) (99) := ri_of (by decide +kernel) rfl
theorem wi_460_99 : ri (rt_P sc fm) 460 99 (.iconst 1) (100) := ri_of (by decide +kernel) rfl
set_option maxRecDepth 100000 in
theorem wm_450 : rx_ml (rt_P sc fm) 450 = 3 := (by decide +kernel : rt_ml 450 = 3)
set_option maxRecDepth 100000 in
theorem wm_456 : rx_ml (rt_P sc fm) 456 = 6 := (by decide +kernel : rt_ml 456 = 6)
set_option maxRecDepth 100000 in
theorem wm_458 : rx_ml (rt_P sc fm) 458 = 4 := (by decide +kernel : rt_ml 458 = 4)
set_option maxRecDepth 100000 in
theorem wm_459 : rx_ml (rt_P sc fm) 459 = 3 := (by decide +kernel : rt_ml 459 = 3)
set_option maxRecDepth 100000 in
theorem wp_460_859 : rx_pt (rt_P sc fm) 460 859 = some (15, 91, .int) := (by decide +kernel : rt_pt 460 859 = some (15, 91, .int))
set_option maxRecDepth 100000 in
theorem wr_460 : rx_rt (rt_P sc fm) 460 = none := (by decide +kernel : rt_rt 460 = none)
/-- MarkHouseModel.flowAll(I)V -/
def d_460 (n : Nat) (a1 : Int32) (c : cS) : Option (cS) :=
  Option.bind (d_450 n a1 c) (fun r1 =>
  lt (pI r1 174 91 0) (fun c2 =>
  Option.bind (whl (R := (cS)) (fun s5 : Int32 × cS =>
    if 96 ≤ s5.1 then
      some (.inr s5.2)
    else
      Option.bind (d_105 n s5.1 s5.2) (fun v6 =>
      jn (fun p7 : cS =>
        lt (s5.1 + 1 : Int32) (fun v9 =>
        some (.inl (v9, p7))))
      (fun j219 =>
      if v6 = 0 then
        j219 s5.2
      else
        Option.bind (d_456 n s5.1 a1 s5.2) (fun r11 =>
        Option.bind (whl (R := (cS)) (fun s13 : Int32 × cS =>
          if ib s5.1 96 then
          if (s13.2.1 210 (ix s5.1)) ≤ s13.1 then
            some (.inr s13.2)
          else
            lt (((40 * s5.1) + s13.1) : Int32) (fun v16 =>
            Option.bind (whl (R := (cS)) (fun s19 : Int32 × cS =>
              Option.bind (d_457 n v16 s19.2) (fun v20 =>
              if v20 ≤ s19.1 then
                some (.inr s19.2)
              else
                if ib v16 3840 then
                if (s19.2.1 239 (ix v16)) = 0 then
                  some (.inr s19.2)
                else
                  if ib v16 3840 then
                  Option.bind (d_459 n v16 s19.1 s19.2) (fun v23 =>
                  if ib (((((16 * v16) + 8) + (s19.2.1 230 (ix v16))) - 1) - v23) 61440 then
                  lt ((s19.2.1 238 (ix (((((16 * v16) + 8) + (s19.2.1 230 (ix v16))) - 1) - v23))) : Int32) (fun v26 =>
                  Option.bind (d_458 n s5.1 v16 s19.1 s19.2) (fun v28 =>
                  if ib v28 1200 then
                  lt ((s19.2.1 236 (ix v28)) : Int32) (fun v31 =>
                  Option.bind (d_387 n a1 v26 v31 s19.2) (fun v33 =>
                  jn (fun p34 : cS =>
                    lt (s19.1 + 1 : Int32) (fun v36 =>
                    some (.inl (v36, p34))))
                  (fun j207 =>
                  if v33 = 0 then
                    if ib (s19.2.1 174 91) 15360 then
                    lt (pI s19.2 241 (ix (s19.2.1 174 91)) s5.1) (fun c39 =>
                    if ib (c39.1 174 91) 15360 then
                    lt (pI c39 242 (ix (c39.1 174 91)) s13.1) (fun c42 =>
                    if ib (c42.1 174 91) 15360 then
                    lt (pI c42 243 (ix (c42.1 174 91)) s19.1) (fun c45 =>
                    if ib (c45.1 174 91) 15360 then
                    lt (pI c45 244 (ix (c45.1 174 91)) v26) (fun c48 =>
                    if ib (c48.1 174 91) 15360 then
                    lt (pI c48 245 (ix (c48.1 174 91)) v31) (fun c51 =>
                    lt (pI c51 174 91 ((c51.1 174 91) + 1)) (fun c53 =>
                    j207 c53))
                    else none)
                    else none)
                    else none)
                    else none)
                    else none
                  else
                    j207 s19.2)))
                  else none))
                  else none)
                  else none
                else none)) n (0, s13.2))
            (fun x55 : cS =>
              lt (s13.1 + 1 : Int32) (fun v57 =>
              some (.inl (v57, x55)))))
          else none) n (0, r11))
        (fun x59 : cS =>
          j219 x59))))) n (0, c2))
  (fun x60 : cS =>
    some x60)))
set_option maxRecDepth 100000 in
set_option maxHeartbeats 4000000 in
theorem sp_460 {F Lo n : Nat} {a1 : Int32} {c y : cS} {w : cW} {K : cS → Prop} {Q : ((Option Value) ⊕ String) → List va_E → Prop} (hw : rOK fm w) (hF : 6 ≤ F) (hLo : 149 ≤ Lo)  (h : wp (d_460 n a1 c) K) (hQ : ∀ r, K r → Q (.inl none) (hq false r y w)) : rs (rt_P sc fm) 460 F Lo 0 [(0, .ref 174), (1, .int a1)] [] (hq false c y w) Q := by
  unfold d_460 at h
  obtain ⟨lv, elv⟩ : ∃ lv : rx_L, lv = [(0, .ref 174), (1, .int a1)] := ⟨_, rfl⟩
  rw [← elv]
  have l0 : rx_ld lv 0 = some (.ref 174) := by rw [elv]; rfl
  have l1 : rx_ld lv 1 = some (.int a1) := by rw [elv]; rfl
  refine rs_aldn wi_460_0 l0 ?_
  refine rs_ildn wi_460_1 l1 ?_
  refine rs_V wi_460_2 wc_460_856 rfl (dq_isa tf_174_0 wa_15_450) (Nat.le_trans (by decide) hF) (ml_le wm_450 (Nat.le_trans (by decide) hLo)) rfl (sp_450 hw (Nat.le_trans (by decide : 5 ≤ 6 - 1) (Nat.sub_le_sub_right hF 1)) (ml_sub wm_450 (Nat.le_trans (by decide : 127 ≤ 149 - 22) (Nat.sub_le_sub_right hLo 22))) (wp_bind h) (fun r1 h => rs_back0 ?_))
  refine rs_aldn wi_460_5 l0 ?_
  refine rs_pure wi_460_6 rfl ?_
  refine rs_topi (v := 0) (by decide) ?_
  obtain ⟨c2, e3, h⟩ := wp_lt h
  refine dq_pi wi_460_7 wp_460_859 tf_174_91 rfl rfl e3 ?_
  refine rs_pure wi_460_10 rfl ?_
  refine rs_topi (v := 0) (by decide) ?_
  refine dl_istn wi_460_11 rfl (fun lv l2 t4 => ?_)
  have l0 := t4 _ _ (by decide) (Or.inl rfl) l0
  have l1 := t4 _ _ (by decide) (Or.inl rfl) l1
  refine whl_ex (A := fun s5 : Int32 × cS => ∀ lv, rx_ld lv 0 = some (.ref 174) → rx_ld lv 1 = some (.int a1) → rx_ld lv 2 = some (.int s5.1) → rs (rt_P sc fm) 460 F Lo 12 lv [] (hq false s5.2 y w) Q) (B := (fun x60 : cS => ∀ lv, rs (rt_P sc fm) 460 F Lo 225 lv [] (hq false x60 y w) Q)) ?_ ?_ _ _ (wp_bind h) _ l0 l1 l2
  · intro s5 h lv l0 l1 l2
    refine rs_ildn wi_460_12 l2 ?_
    refine rs_pure wi_460_13 rfl ?_
    refine rs_topi (v := 96) (by decide) ?_
    refine rs_icge (tg := 225) wi_460_15 ⟨by decide, by decide⟩ (fun q => ?_) (fun q => ?_)
    ·
      have h := wp_pos h q
      exact h _
    ·
      have h := wp_neg h q
      refine rs_aldn wi_460_18 l0 ?_
      refine rs_ildn wi_460_19 l2 ?_
      refine rs_V wi_460_20 wc_460_614 rfl (dq_isa tf_174_0 wa_15_105) (Nat.le_trans (by decide) hF) (ml_le wm_105 (Nat.le_trans (by decide) hLo)) rfl (sp_105 hw (Nat.le_trans (by decide : 0 ≤ 6 - 1) (Nat.sub_le_sub_right hF 1)) (ml_sub wm_105 (Nat.le_trans (by decide : 0 ≤ 149 - 21) (Nat.sub_le_sub_right hLo 21))) (wp_bind h) (fun v6 h => rs_back1 ?_))
      refine wp_jn (B := fun p7 : cS => ∀ lv, rx_ld lv 0 = some (.ref 174) → rx_ld lv 1 = some (.int a1) → rx_ld lv 2 = some (.int s5.1) → rs (rt_P sc fm) 460 F Lo 219 lv [] (hq false p7 y w) Q) h (fun p7 h lv l0 l1 l2 => ?_) (fun j219 hj219 h => ?_)
      ·
        obtain ⟨v9, e10, h⟩ := wp_lt h
        refine dl_inc wi_460_219 l2 rfl e10 (fun lv l2 t8 => ?_)
        have l0 := t8 _ _ (by decide) (Or.inl rfl) l0
        have l1 := t8 _ _ (by decide) (Or.inl rfl) l1
        refine rs_goto (tg := 12) wi_460_222 ⟨by decide, by decide⟩ ?_
        exact h _ l0 l1 l2
      refine rs_ifne (tg := 29) wi_460_23 ⟨by decide, by decide⟩ (fun q => ?_) (fun q => ?_)
      ·
        have h := wp_neg h q
        refine rs_aldn wi_460_29 l0 ?_
        refine rs_ildn wi_460_30 l2 ?_
        refine rs_ildn wi_460_31 l1 ?_
        refine rs_V wi_460_32 wc_460_862 rfl (dq_isa tf_174_0 wa_15_456) (Nat.le_trans (by decide) hF) (ml_le wm_456 (Nat.le_trans (by decide) hLo)) rfl (sp_456 hw (Nat.le_trans (by decide : 3 ≤ 6 - 1) (Nat.sub_le_sub_right hF 1)) (ml_sub wm_456 (Nat.le_trans (by decide : 70 ≤ 149 - 25) (Nat.sub_le_sub_right hLo 25))) (wp_bind h) (fun r11 h => rs_back0 ?_))
        refine rs_pure wi_460_35 rfl ?_
        refine rs_topi (v := 0) (by decide) ?_
        refine dl_istn wi_460_36 rfl (fun lv l3 t12 => ?_)
        have l0 := t12 _ _ (by decide) (Or.inl rfl) l0
        have l1 := t12 _ _ (by decide) (Or.inl rfl) l1
        have l2 := t12 _ _ (by decide) (Or.inl rfl) l2
        refine whl_ex (A := fun s13 : Int32 × cS => ∀ lv, rx_ld lv 0 = some (.ref 174) → rx_ld lv 1 = some (.int a1) → rx_ld lv 2 = some (.int s5.1) → rx_ld lv 3 = some (.int s13.1) → rs (rt_P sc fm) 460 F Lo 37 lv [] (hq false s13.2 y w) Q) (B := (fun x59 : cS => ∀ lv, rx_ld lv 0 = some (.ref 174) → rx_ld lv 1 = some (.int a1) → rx_ld lv 2 = some (.int s5.1) → rs (rt_P sc fm) 460 F Lo 219 lv [] (hq false x59 y w) Q)) ?_ ?_ _ _ (wp_bind h) _ l0 l1 l2 l3
        · intro s13 h lv l0 l1 l2 l3
          refine rs_ildn wi_460_37 l3 ?_
          refine rs_aldn wi_460_38 l0 ?_
          refine dq_gr wi_460_39 wf_460_182 tf_174_48 ?_
          refine rs_ildn wi_460_42 l2 ?_
          obtain ⟨g14, h⟩ := wp_gd h
          refine dq_iald wi_460_43 t_210 g14 ?_
          refine rs_icge (tg := 219) wi_460_44 ⟨by decide, by decide⟩ (fun q => ?_) (fun q => ?_)
          ·
            have h := wp_pos h q
            exact h _ l0 l1 l2
          ·
            have h := wp_neg h q
            refine rs_pure wi_460_47 rfl ?_
            refine rs_topi (v := 40) (by decide) ?_
            refine rs_ildn wi_460_49 l2 ?_
            refine rs_pure wi_460_50 rfl ?_
            refine rs_ildn wi_460_51 l3 ?_
            refine rs_pure wi_460_52 rfl ?_
            obtain ⟨v16, e17, h⟩ := wp_lt h
            refine rs_topi e17 ?_
            refine dl_ist wi_460_53 rfl (fun lv l4 t15 => ?_)
            have l0 := t15 _ _ (by decide) (Or.inl rfl) l0
            have l1 := t15 _ _ (by decide) (Or.inl rfl) l1
            have l2 := t15 _ _ (by decide) (Or.inl rfl) l2
            have l3 := t15 _ _ (by decide) (Or.inl rfl) l3
            refine rs_pure wi_460_55 rfl ?_
            refine rs_topi (v := 0) (by decide) ?_
            refine dl_ist wi_460_56 rfl (fun lv l5 t18 => ?_)
            have l0 := t18 _ _ (by decide) (Or.inl rfl) l0
            have l1 := t18 _ _ (by decide) (Or.inl rfl) l1
            have l2 := t18 _ _ (by decide) (Or.inl rfl) l2
            have l3 := t18 _ _ (by decide) (Or.inl rfl) l3
            have l4 := t18 _ _ (by decide) (Or.inl rfl) l4
            refine whl_ex (A := fun s19 : Int32 × cS => ∀ lv, rx_ld lv 0 = some (.ref 174) → rx_ld lv 1 = some (.int a1) → rx_ld lv 2 = some (.int s5.1) → rx_ld lv 3 = some (.int s13.1) → rx_ld lv 4 = some (.int v16) → rx_ld lv 5 = some (.int s19.1) → rs (rt_P sc fm) 460 F Lo 58 lv [] (hq false s19.2 y w) Q) (B := (fun x55 : cS => ∀ lv, rx_ld lv 0 = some (.ref 174) → rx_ld lv 1 = some (.int a1) → rx_ld lv 2 = some (.int s5.1) → rx_ld lv 3 = some (.int s13.1) → rs (rt_P sc fm) 460 F Lo 213 lv [] (hq false x55 y w) Q)) ?_ ?_ _ _ (wp_bind h) _ l0 l1 l2 l3 l4 l5
            · intro s19 h lv l0 l1 l2 l3 l4 l5
              refine rs_ild wi_460_58 l5 ?_
              refine rs_aldn wi_460_60 l0 ?_
              refine rs_ild wi_460_61 l4 ?_
              refine rs_V wi_460_63 wc_460_853 rfl (dq_isa tf_174_0 wa_15_457) (Nat.le_trans (by decide) hF) (ml_le wm_457 (Nat.le_trans (by decide) hLo)) rfl (sp_457 hw (Nat.le_trans (by decide : 0 ≤ 6 - 1) (Nat.sub_le_sub_right hF 1)) (ml_sub wm_457 (Nat.le_trans (by decide : 0 ≤ 149 - 21) (Nat.sub_le_sub_right hLo 21))) (wp_bind h) (fun v20 h => rs_back1 ?_))
              refine rs_icge (tg := 213) wi_460_66 ⟨by decide, by decide⟩ (fun q => ?_) (fun q => ?_)
              ·
                have h := wp_pos h q
                exact h _ l0 l1 l2 l3
              ·
                have h := wp_neg h q
                refine rs_aldn wi_460_69 l0 ?_
                refine dq_gr wi_460_70 wf_460_271 tf_174_88 ?_
                refine rs_ild wi_460_73 l4 ?_
                obtain ⟨g21, h⟩ := wp_gd h
                refine dq_zald wi_460_75 t_239 g21 ?_
                refine rs_ifeq (tg := 213) wi_460_76 ⟨by decide, by decide⟩ (fun q => ?_) (fun q => ?_)
                ·
                  have h := wp_pos h q
                  exact h _ l0 l1 l2 l3
                ·
                  have h := wp_neg h q
                  refine rs_aldn wi_460_79 l0 ?_
                  refine dq_gr wi_460_80 wf_460_268 tf_174_87 ?_
                  refine rs_pure wi_460_83 rfl ?_
                  refine rs_topi (v := 16) (by decide) ?_
                  refine rs_ild wi_460_85 l4 ?_
                  refine rs_pure wi_460_87 rfl ?_
                  refine rs_pure wi_460_88 rfl ?_
                  refine rs_topi (v := 8) (by decide) ?_
                  refine rs_pure wi_460_90 rfl ?_
                  refine rs_aldn wi_460_91 l0 ?_
                  refine dq_gr wi_460_92 wf_460_243 tf_174_70 ?_
                  refine rs_ild wi_460_95 l4 ?_
                  obtain ⟨g22, h⟩ := wp_gd h
                  refine dq_iald wi_460_97 t_230 g22 ?_
                  refine rs_pure wi_460_98 rfl ?_
                  refine rs_pure wi_460_99 rfl ?_
                  refine rs_topi (v := 1) (by decide) ?_
                  refine rs_pure wi_460_100 rfl ?_
                  refine rs_aldn wi_460_101 l0 ?_
                  refine rs_ild wi_460_102 l4 ?_
                  refine rs_ild wi_460_104 l5 ?_
                  refine rs_V wi_460_106 wc_460_865 rfl (dq_isa tf_174_0 wa_15_459) (Nat.le_trans (by decide) hF) (ml_le wm_459 (Nat.le_trans (by decide) hLo)) rfl (sp_459 hw (Nat.le_trans (by decide : 1 ≤ 6 - 1) (Nat.sub_le_sub_right hF 1)) (ml_sub wm_459 (Nat.le_trans (by decide : 21 ≤ 149 - 22) (Nat.sub_le_sub_right hLo 22))) (wp_bind h) (fun v23 h => rs_back1 ?_))
                  refine rs_pure wi_460_109 rfl ?_
                  obtain ⟨g24, h⟩ := wp_gd h
                  refine dq_iald wi_460_110 t_238 g24 ?_
                  obtain ⟨v26, e27, h⟩ := wp_lt h
                  refine rs_topi e27 ?_
                  refine dl_ist wi_460_111 rfl (fun lv l6 t25 => ?_)
                  have l0 := t25 _ _ (by decide) (Or.inl rfl) l0
                  have l1 := t25 _ _ (by decide) (Or.inl rfl) l1
                  have l2 := t25 _ _ (by decide) (Or.inl rfl) l2
                  have l3 := t25 _ _ (by decide) (Or.inl rfl) l3
                  have l4 := t25 _ _ (by decide) (Or.inl rfl) l4
                  have l5 := t25 _ _ (by decide) (Or.inl rfl) l5
                  refine rs_aldn wi_460_113 l0 ?_
                  refine dq_gr wi_460_114 wf_460_261 tf_174_85 ?_
                  refine rs_aldn wi_460_117 l0 ?_
                  refine rs_ildn wi_460_118 l2 ?_
                  refine rs_ild wi_460_119 l4 ?_
                  refine rs_ild wi_460_121 l5 ?_
                  refine rs_V wi_460_123 wc_460_868 rfl (dq_isa tf_174_0 wa_15_458) (Nat.le_trans (by decide) hF) (ml_le wm_458 (Nat.le_trans (by decide) hLo)) rfl (sp_458 hw (Nat.le_trans (by decide : 1 ≤ 6 - 1) (Nat.sub_le_sub_right hF 1)) (ml_sub wm_458 (Nat.le_trans (by decide : 21 ≤ 149 - 23) (Nat.sub_le_sub_right hLo 23))) (wp_bind h) (fun v28 h => rs_back1 ?_))
                  obtain ⟨g29, h⟩ := wp_gd h
                  refine dq_iald wi_460_126 t_236 g29 ?_
                  obtain ⟨v31, e32, h⟩ := wp_lt h
                  refine rs_topi e32 ?_
                  refine dl_ist wi_460_127 rfl (fun lv l7 t30 => ?_)
                  have l0 := t30 _ _ (by decide) (Or.inl rfl) l0
                  have l1 := t30 _ _ (by decide) (Or.inl rfl) l1
                  have l2 := t30 _ _ (by decide) (Or.inl rfl) l2
                  have l3 := t30 _ _ (by decide) (Or.inl rfl) l3
                  have l4 := t30 _ _ (by decide) (Or.inl rfl) l4
                  have l5 := t30 _ _ (by decide) (Or.inl rfl) l5
                  have l6 := t30 _ _ (by decide) (Or.inl rfl) l6
                  refine rs_aldn wi_460_129 l0 ?_
                  refine rs_ildn wi_460_130 l1 ?_
                  refine rs_ild wi_460_131 l6 ?_
                  refine rs_ild wi_460_133 l7 ?_
                  refine rs_V wi_460_135 wc_460_535 rfl (dq_isa tf_174_0 wa_15_387) (Nat.le_trans (by decide) hF) (ml_le wm_387 (Nat.le_trans (by decide) hLo)) rfl (sp_387 hw (Nat.le_trans (by decide : 1 ≤ 6 - 1) (Nat.sub_le_sub_right hF 1)) (ml_sub wm_387 (Nat.le_trans (by decide : 23 ≤ 149 - 23) (Nat.sub_le_sub_right hLo 23))) (wp_bind h) (fun v33 h => rs_back1 ?_))
                  refine wp_jn (B := fun p34 : cS => ∀ lv, rx_ld lv 0 = some (.ref 174) → rx_ld lv 1 = some (.int a1) → rx_ld lv 2 = some (.int s5.1) → rx_ld lv 3 = some (.int s13.1) → rx_ld lv 4 = some (.int v16) → rx_ld lv 5 = some (.int s19.1) → rs (rt_P sc fm) 460 F Lo 207 lv [] (hq false p34 y w) Q) h (fun p34 h lv l0 l1 l2 l3 l4 l5 => ?_) (fun j207 hj207 h => ?_)
                  ·
                    obtain ⟨v36, e37, h⟩ := wp_lt h
                    refine dl_inc wi_460_207 l5 rfl e37 (fun lv l5 t35 => ?_)
                    have l0 := t35 _ _ (by decide) (Or.inl rfl) l0
                    have l1 := t35 _ _ (by decide) (Or.inl rfl) l1
                    have l2 := t35 _ _ (by decide) (Or.inl rfl) l2
                    have l3 := t35 _ _ (by decide) (Or.inl rfl) l3
                    have l4 := t35 _ _ (by decide) (Or.inl rfl) l4
                    refine rs_goto (tg := 58) wi_460_210 ⟨by decide, by decide⟩ ?_
                    exact h _ l0 l1 l2 l3 l4 l5
                  refine rs_ifeq (tg := 144) wi_460_138 ⟨by decide, by decide⟩ (fun q => ?_) (fun q => ?_)
                  ·
                    have h := wp_pos h q
                    refine rs_aldn wi_460_144 l0 ?_
                    refine dq_gr wi_460_145 wf_460_277 tf_174_92 ?_
                    refine rs_aldn wi_460_148 l0 ?_
                    refine dq_gi wi_460_149 wf_460_859 tf_174_91 ?_
                    refine rs_ildn wi_460_152 l2 ?_
                    obtain ⟨g38, h⟩ := wp_gd h
                    obtain ⟨c39, e40, h⟩ := wp_lt h
                    refine dq_iast wi_460_153 t_241 g38 e40 ?_
                    refine rs_aldn wi_460_154 l0 ?_
                    refine dq_gr wi_460_155 wf_460_280 tf_174_93 ?_
                    refine rs_aldn wi_460_158 l0 ?_
                    refine dq_gi wi_460_159 wf_460_859 tf_174_91 ?_
                    refine rs_ildn wi_460_162 l3 ?_
                    obtain ⟨g41, h⟩ := wp_gd h
                    obtain ⟨c42, e43, h⟩ := wp_lt h
                    refine dq_iast wi_460_163 t_242 g41 e43 ?_
                    refine rs_aldn wi_460_164 l0 ?_
                    refine dq_gr wi_460_165 wf_460_283 tf_174_94 ?_
                    refine rs_aldn wi_460_168 l0 ?_
                    refine dq_gi wi_460_169 wf_460_859 tf_174_91 ?_
                    refine rs_ild wi_460_172 l5 ?_
                    obtain ⟨g44, h⟩ := wp_gd h
                    obtain ⟨c45, e46, h⟩ := wp_lt h
                    refine dq_iast wi_460_174 t_243 g44 e46 ?_
                    refine rs_aldn wi_460_175 l0 ?_
                    refine dq_gr wi_460_176 wf_460_286 tf_174_95 ?_
                    refine rs_aldn wi_460_179 l0 ?_
                    refine dq_gi wi_460_180 wf_460_859 tf_174_91 ?_
                    refine rs_ild wi_460_183 l6 ?_
                    obtain ⟨g47, h⟩ := wp_gd h
                    obtain ⟨c48, e49, h⟩ := wp_lt h
                    refine dq_iast wi_460_185 t_244 g47 e49 ?_
                    refine rs_aldn wi_460_186 l0 ?_
                    refine dq_gr wi_460_187 wf_460_289 tf_174_96 ?_
                    refine rs_aldn wi_460_190 l0 ?_
                    refine dq_gi wi_460_191 wf_460_859 tf_174_91 ?_
                    refine rs_ild wi_460_194 l7 ?_
                    obtain ⟨g50, h⟩ := wp_gd h
                    obtain ⟨c51, e52, h⟩ := wp_lt h
                    refine dq_iast wi_460_196 t_245 g50 e52 ?_
                    refine rs_aldn wi_460_197 l0 ?_
                    refine rs_pure wi_460_198 rfl ?_
                    refine dq_gi wi_460_199 wf_460_859 tf_174_91 ?_
                    refine rs_pure wi_460_202 rfl ?_
                    refine rs_topi (v := 1) (by decide) ?_
                    refine rs_pure wi_460_203 rfl ?_
                    obtain ⟨c53, e54, h⟩ := wp_lt h
                    refine dq_pi wi_460_204 wp_460_859 tf_174_91 rfl rfl e54 ?_
                    exact hj207 _ h _ l0 l1 l2 l3 l4 l5
                  ·
                    have h := wp_neg h q
                    refine rs_goto (tg := 207) wi_460_141 ⟨by decide, by decide⟩ ?_
                    exact hj207 _ h _ l0 l1 l2 l3 l4 l5
            ·
              intro x55 h lv l0 l1 l2 l3
              obtain ⟨v57, e58, h⟩ := wp_lt h
              refine dl_inc wi_460_213 l3 rfl e58 (fun lv l3 t56 => ?_)
              have l0 := t56 _ _ (by decide) (Or.inl rfl) l0
              have l1 := t56 _ _ (by decide) (Or.inl rfl) l1
              have l2 := t56 _ _ (by decide) (Or.inl rfl) l2
              refine rs_goto (tg := 37) wi_460_216 ⟨by decide, by decide⟩ ?_
              exact h _ l0 l1 l2 l3
        ·
          intro x59 h lv l0 l1 l2
          exact hj219 _ h _ l0 l1 l2
      ·
        have h := wp_pos h q
        refine rs_goto (tg := 219) wi_460_26 ⟨by decide, by decide⟩ ?_
        exact hj219 _ h _ l0 l1 l2
  ·
    intro x60 h lv
    exact rs_vret wi_460_225 wr_460 (hQ x60 h)
set_option maxRecDepth 100000 in
theorem wa_15_460 : rz_cn 15 (rx_yn (rt_P sc fm) 460).cls = true := (by decide +kernel : rz_cn 15 (rt_yn 460).cls = true)
set_option maxRecDepth 100000 in
theorem wc_126_724 : rx_ct (rt_P sc fm) 126 724 = some (0, 119, 1) := (by decide +kernel : rt_ct 126 724 = some (0, 119, 1))
set_option maxRecDepth 100000 in
theorem wc_126_871 : rx_ct (rt_P sc fm) 126 871 = some (0, 460, 1) := (by decide +kernel : rt_ct 126 871 = some (0, 460, 1))
set_option maxRecDepth 100000 in
theorem wf_126_859 : rx_ft (rt_P sc fm) 126 859 = some (15, 91) := (by decide +kernel : rt_ft 126 859 = some (15, 91))
theorem wi_126_0 : ri (rt_P sc fm) 126 0 (.aload_n 0) (1) := ri_of (by decide +kernel) rfl
theorem wi_126_1 : ri (rt_P sc fm) 126 1 (.iconst 0) (2) := ri_of (by decide +kernel) rfl
theorem wi_126_10 : ri (rt_P sc fm) 126 10 (.ifCond .ne 5) (13) := ri_of (by decide +kernel) rfl
theorem wi_126_13 : ri (rt_P sc fm) 126 13 (.iconst (-1)) (14) := ri_of (by decide +kernel) rfl
theorem wi_126_14 : ri (rt_P sc fm) 126 14 (.ireturn) (15) := ri_of (by decide +kernel) rfl
theorem wi_126_15 : ri (rt_P sc fm) 126 15 (.aload_n 0) (16) := ri_of (by decide +kernel) rfl
theorem wi_126_16 : ri (rt_P sc fm) 126 16 (.iload_n 1) (17) := ri_of (by decide +kernel) rfl
theorem wi_126_17 : ri (rt_P sc fm) 126 17 (.invokevirtual 871) (20) := ri_of (by decide +kernel) rfl
theorem wi_126_2 : ri (rt_P sc fm) 126 2 (.putfield 356) (5) := ri_of (by decide +kernel) rfl
theorem wi_126_20 : ri (rt_P sc fm) 126 20 (.aload_n 0) (21) := ri_of (by decide +kernel) rfl
theorem wi_126_21 : ri (rt_P sc fm) 126 21 (.iload_n 1) (22) := ri_of (by decide +kernel) rfl
theorem wi_126_22 : ri (rt_P sc fm) 126 22 (.putfield 292) (25) := ri_of (by decide +kernel) rfl
theorem wi_126_25 : ri (rt_P sc fm) 126 25 (.aload_n 0) (26) := ri_of (by decide +kernel) rfl
theorem wi_126_26 : ri (rt_P sc fm) 126 26 (.iconst 0) (27) := ri_of (by decide +kernel) rfl
theorem wi_126_27 : ri (rt_P sc fm) 126 27 (.putfield 874) (30) := ri_of (by decide +kernel) rfl
theorem wi_126_30 : ri (rt_P sc fm) 126 30 (.aload_n 0) (31) := ri_of (by decide +kernel) rfl
theorem wi_126_31 : ri (rt_P sc fm) 126 31 (.getfield 859) (34) := ri_of (by decide +kernel) rfl
theorem wi_126_34 : ri (rt_P sc fm) 126 34 (.ireturn) (35) := ri_of (by decide +kernel) rfl
theorem wi_126_5 : ri (rt_P sc fm) 126 5 (.aload_n 0) (6) := ri_of (by decide +kernel) rfl
theorem wi_126_6 : ri (rt_P sc fm) 126 6 (.iload_n 1) (7) := ri_of (by decide +kernel) rfl
theorem wi_126_7 : ri (rt_P sc fm) 126 7 (.invokevirtual 724) (10) := ri_of (by decide +kernel) rfl
set_option maxRecDepth 100000 in
theorem wm_460 : rx_ml (rt_P sc fm) 460 = 8 := (by decide +kernel : rt_ml 460 = 8)
set_option maxRecDepth 100000 in
theorem wp_126_292 : rx_pt (rt_P sc fm) 126 292 = some (15, 97, .int) := (by decide +kernel : rt_pt 126 292 = some (15, 97, .int))
set_option maxRecDepth 100000 in
theorem wp_126_356 : rx_pt (rt_P sc fm) 126 356 = some (15, 0, .int) := (by decide +kernel : rt_pt 126 356 = some (15, 0, .int))
set_option maxRecDepth 100000 in
theorem wp_126_874 : rx_pt (rt_P sc fm) 126 874 = some (15, 102, .int) := (by decide +kernel : rt_pt 126 874 = some (15, 102, .int))
set_option maxRecDepth 100000 in
theorem wr_126 : rx_rt (rt_P sc fm) 126 = (some FieldType.int) := (by decide +kernel : rt_rt 126 = (some FieldType.int))
/-- MarkHouseModel.flow(I)I -/
def d_126 (n : Nat) (a1 : Int32) (c : cS) : Option (Int32 × cS) :=
  lt (pI c 174 0 0) (fun c1 =>
  Option.bind (d_119 n a1 c1) (fun v3 =>
  if v3 = 0 then
    some ((-1), c1)
  else
    Option.bind (d_460 n a1 c1) (fun r4 =>
    lt (pI r4 174 97 a1) (fun c5 =>
    lt (pI c5 174 102 0) (fun c7 =>
    some ((c7.1 174 91), c7))))))
set_option maxRecDepth 100000 in
set_option maxHeartbeats 4000000 in
theorem sp_126 {F Lo n : Nat} {a1 : Int32} {c y : cS} {w : cW} {K : Int32 × cS → Prop} {Q : ((Option Value) ⊕ String) → List va_E → Prop} (hw : rOK fm w) (hF : 7 ≤ F) (hLo : 176 ≤ Lo)  (h : wp (d_126 n a1 c) K) (hQ : ∀ r, K r → Q (.inl (some (.int r.1))) (hq false r.2 y w)) : rs (rt_P sc fm) 126 F Lo 0 [(0, .ref 174), (1, .int a1)] [] (hq false c y w) Q := by
  unfold d_126 at h
  obtain ⟨lv, elv⟩ : ∃ lv : rx_L, lv = [(0, .ref 174), (1, .int a1)] := ⟨_, rfl⟩
  rw [← elv]
  have l0 : rx_ld lv 0 = some (.ref 174) := by rw [elv]; rfl
  have l1 : rx_ld lv 1 = some (.int a1) := by rw [elv]; rfl
  refine rs_aldn wi_126_0 l0 ?_
  refine rs_pure wi_126_1 rfl ?_
  refine rs_topi (v := 0) (by decide) ?_
  obtain ⟨c1, e2, h⟩ := wp_lt h
  refine dq_pi wi_126_2 wp_126_356 tf_174_0 rfl rfl e2 ?_
  refine rs_aldn wi_126_5 l0 ?_
  refine rs_ildn wi_126_6 l1 ?_
  refine rs_V wi_126_7 wc_126_724 rfl (dq_isa tf_174_0 wa_15_119) (Nat.le_trans (by decide) hF) (ml_le wm_119 (Nat.le_trans (by decide) hLo)) rfl (sp_119 hw (Nat.le_trans (by decide : 0 ≤ 7 - 1) (Nat.sub_le_sub_right hF 1)) (ml_sub wm_119 (Nat.le_trans (by decide : 0 ≤ 176 - 21) (Nat.sub_le_sub_right hLo 21))) (wp_bind h) (fun v3 h => rs_back1 ?_))
  refine rs_ifne (tg := 15) wi_126_10 ⟨by decide, by decide⟩ (fun q => ?_) (fun q => ?_)
  ·
    have h := wp_neg h q
    refine rs_aldn wi_126_15 l0 ?_
    refine rs_ildn wi_126_16 l1 ?_
    refine rs_V wi_126_17 wc_126_871 rfl (dq_isa tf_174_0 wa_15_460) (Nat.le_trans (by decide) hF) (ml_le wm_460 (Nat.le_trans (by decide) hLo)) rfl (sp_460 hw (Nat.le_trans (by decide : 6 ≤ 7 - 1) (Nat.sub_le_sub_right hF 1)) (ml_sub wm_460 (Nat.le_trans (by decide : 149 ≤ 176 - 27) (Nat.sub_le_sub_right hLo 27))) (wp_bind h) (fun r4 h => rs_back0 ?_))
    refine rs_aldn wi_126_20 l0 ?_
    refine rs_ildn wi_126_21 l1 ?_
    obtain ⟨c5, e6, h⟩ := wp_lt h
    refine dq_pi wi_126_22 wp_126_292 tf_174_97 rfl rfl e6 ?_
    refine rs_aldn wi_126_25 l0 ?_
    refine rs_pure wi_126_26 rfl ?_
    refine rs_topi (v := 0) (by decide) ?_
    obtain ⟨c7, e8, h⟩ := wp_lt h
    refine dq_pi wi_126_27 wp_126_874 tf_174_102 rfl rfl e8 ?_
    refine rs_aldn wi_126_30 l0 ?_
    refine dq_gi wi_126_31 wf_126_859 tf_174_91 ?_
    exact rs_iret wi_126_34 wr_126 rfl (hQ ((c7.1 174 91), c7) h)
  ·
    have h := wp_pos h q
    refine rs_pure wi_126_13 rfl ?_
    refine rs_topi (v := (-1)) (by decide) ?_
    exact rs_iret wi_126_14 wr_126 rfl (hQ ((-1), c1) h)
set_option maxRecDepth 100000 in
theorem wc_127_661 : rx_ct (rt_P sc fm) 127 661 = some (1, 422, 1) := (by decide +kernel : rt_ct 127 661 = some (1, 422, 1))
set_option maxRecDepth 100000 in
theorem wf_127_277 : rx_ft (rt_P sc fm) 127 277 = some (15, 92) := (by decide +kernel : rt_ft 127 277 = some (15, 92))
set_option maxRecDepth 100000 in
theorem wf_127_280 : rx_ft (rt_P sc fm) 127 280 = some (15, 93) := (by decide +kernel : rt_ft 127 280 = some (15, 93))
set_option maxRecDepth 100000 in
theorem wf_127_283 : rx_ft (rt_P sc fm) 127 283 = some (15, 94) := (by decide +kernel : rt_ft 127 283 = some (15, 94))
set_option maxRecDepth 100000 in
theorem wf_127_286 : rx_ft (rt_P sc fm) 127 286 = some (15, 95) := (by decide +kernel : rt_ft 127 286 = some (15, 95))
set_option maxRecDepth 100000 in
theorem wf_127_289 : rx_ft (rt_P sc fm) 127 289 = some (15, 96) := (by decide +kernel : rt_ft 127 289 = some (15, 96))
set_option maxRecDepth 100000 in
theorem wf_127_292 : rx_ft (rt_P sc fm) 127 292 = some (15, 97) := (by decide +kernel : rt_ft 127 292 = some (15, 97))
set_option maxRecDepth 100000 in
theorem wf_127_859 : rx_ft (rt_P sc fm) 127 859 = some (15, 91) := (by decide +kernel : rt_ft 127 859 = some (15, 91))
theorem wi_127_0 : ri (rt_P sc fm) 127 0 (.aload_n 0) (1) := ri_of (by decide +kernel) rfl
theorem wi_127_1 : ri (rt_P sc fm) 127 1 (.iconst 0) (2) := ri_of (by decide +kernel) rfl
theorem wi_127_12 : ri (rt_P sc fm) 127 12 (.iload_n 1) (13) := ri_of (by decide +kernel) rfl
theorem wi_127_13 : ri (rt_P sc fm) 127 13 (.ifCond .lt 11) (16) := ri_of (by decide +kernel) rfl
theorem wi_127_16 : ri (rt_P sc fm) 127 16 (.iload_n 1) (17) := ri_of (by decide +kernel) rfl
theorem wi_127_17 : ri (rt_P sc fm) 127 17 (.aload_n 0) (18) := ri_of (by decide +kernel) rfl
theorem wi_127_18 : ri (rt_P sc fm) 127 18 (.getfield 859) (21) := ri_of (by decide +kernel) rfl
theorem wi_127_2 : ri (rt_P sc fm) 127 2 (.putfield 356) (5) := ri_of (by decide +kernel) rfl
theorem wi_127_21 : ri (rt_P sc fm) 127 21 (.if_icmp .lt 5) (24) := ri_of (by decide +kernel) rfl
theorem wi_127_24 : ri (rt_P sc fm) 127 24 (.iconst (-1)) (25) := ri_of (by decide +kernel) rfl
theorem wi_127_25 : ri (rt_P sc fm) 127 25 (.ireturn) (26) := ri_of (by decide +kernel) rfl
theorem wi_127_26 : ri (rt_P sc fm) 127 26 (.iload_n 2) (27) := ri_of (by decide +kernel) rfl
theorem wi_127_27 : ri (rt_P sc fm) 127 27 (.tableswitch 71 0 4 #[33, 43, 50, 57, 64]) (27 + rx_len (.tableswitch 71 0 4 #[33, 43, 50, 57, 64])) := ri_of (by decide +kernel) rfl
theorem wi_127_5 : ri (rt_P sc fm) 127 5 (.aload_n 0) (6) := ri_of (by decide +kernel) rfl
theorem wi_127_6 : ri (rt_P sc fm) 127 6 (.getfield 292) (9) := ri_of (by decide +kernel) rfl
theorem wi_127_60 : ri (rt_P sc fm) 127 60 (.aload_n 0) (61) := ri_of (by decide +kernel) rfl
theorem wi_127_61 : ri (rt_P sc fm) 127 61 (.getfield 277) (64) := ri_of (by decide +kernel) rfl
theorem wi_127_64 : ri (rt_P sc fm) 127 64 (.iload_n 1) (65) := ri_of (by decide +kernel) rfl
theorem wi_127_65 : ri (rt_P sc fm) 127 65 (.iaload) (66) := ri_of (by decide +kernel) rfl
theorem wi_127_66 : ri (rt_P sc fm) 127 66 (.invokestatic 661) (69) := ri_of (by decide +kernel) rfl
theorem wi_127_69 : ri (rt_P sc fm) 127 69 (.ireturn) (70) := ri_of (by decide +kernel) rfl
theorem wi_127_70 : ri (rt_P sc fm) 127 70 (.aload_n 0) (71) := ri_of (by decide +kernel) rfl
theorem wi_127_71 : ri (rt_P sc fm) 127 71 (.getfield 280) (74) := ri_of (by decide +kernel) rfl
theorem wi_127_74 : ri (rt_P sc fm) 127 74 (.iload_n 1) (75) := ri_of (by decide +kernel) rfl
theorem wi_127_75 : ri (rt_P sc fm) 127 75 (.iaload) (76) := ri_of (by decide +kernel) rfl
theorem wi_127_76 : ri (rt_P sc fm) 127 76 (.ireturn) (77) := ri_of (by decide +kernel) rfl
theorem wi_127_77 : ri (rt_P sc fm) 127 77 (.aload_n 0) (78) := ri_of (by decide +kernel) rfl
theorem wi_127_78 : ri (rt_P sc fm) 127 78 (.getfield 283) (81) := ri_of (by decide +kernel) rfl
theorem wi_127_81 : ri (rt_P sc fm) 127 81 (.iload_n 1) (82) := ri_of (by decide +kernel) rfl
theorem wi_127_82 : ri (rt_P sc fm) 127 82 (.iaload) (83) := ri_of (by decide +kernel) rfl
theorem wi_127_83 : ri (rt_P sc fm) 127 83 (.ireturn) (84) := ri_of (by decide +kernel) rfl
theorem wi_127_84 : ri (rt_P sc fm) 127 84 (.aload_n 0) (85) := ri_of (by decide +kernel) rfl
theorem wi_127_85 : ri (rt_P sc fm) 127 85 (.getfield 286) (88) := ri_of (by decide +kernel) rfl
theorem wi_127_88 : ri (rt_P sc fm) 127 88 (.iload_n 1) (89) := ri_of (by decide +kernel) rfl
theorem wi_127_89 : ri (rt_P sc fm) 127 89 (.iaload) (90) := ri_of (by decide +kernel) rfl
theorem wi_127_9 : ri (rt_P sc fm) 127 9 (.ifCond .lt 15) (12) := ri_of (by decide +kernel) rfl
theorem wi_127_90 : ri (rt_P sc fm) 127 90 (.ireturn) (91) := ri_of (by decide +kernel) rfl
theorem wi_127_91 : ri (rt_P sc fm) 127 91 (.aload_n 0) (92) := ri_of (by decide +kernel) rfl
theorem wi_127_92 : ri (rt_P sc fm) 127 92 (.getfield 289) (95) := ri_of (by decide +kernel) rfl
theorem wi_127_95 : ri (rt_P sc fm) 127 95 (.iload_n 1) (96) := ri_of (by decide +kernel) rfl
theorem wi_127_96 : ri (rt_P sc fm) 127 96 (.iaload) (97) := ri_of (by decide +kernel) rfl
theorem wi_127_97 : ri (rt_P sc fm) 127 97 (.ireturn) (98) := ri_of (by decide +kernel) rfl
theorem wi_127_98 : ri (rt_P sc fm) 127 98 (.iconst (-1)) (99) := ri_of (by decide +kernel) rfl
theorem wi_127_99 : ri (rt_P sc fm) 127 99 (.ireturn) (100) := ri_of (by decide +kernel) rfl
set_option maxRecDepth 100000 in
theorem wp_127_356 : rx_pt (rt_P sc fm) 127 356 = some (15, 0, .int) := (by decide +kernel : rt_pt 127 356 = some (15, 0, .int))
set_option maxRecDepth 100000 in
theorem wr_127 : rx_rt (rt_P sc fm) 127 = (some FieldType.int) := (by decide +kernel : rt_rt 127 = (some FieldType.int))
/-- MarkHouseModel.error(II)I -/
def d_127 (n : Nat) (a1 : Int32) (a2 : Int32) (c : cS) : Option (Int32 × cS) :=
  lt (pI c 174 0 0) (fun c1 =>
  jn (fun p3 : Unit =>
    some ((-1), c1))
  (fun j24 =>
  if (c1.1 174 97) < 0 then
    j24 ()
  else
    if a1 < 0 then
      j24 ()
    else
      if a1 < (c1.1 174 91) then
        if a2 = 0 then
          if ib a1 15360 then
          Option.bind (d_422 n (c1.1 241 (ix a1))) (fun v6 =>
          some (v6, c1))
          else none
        else
        if a2 = 1 then
          if ib a1 15360 then
          some ((c1.1 242 (ix a1)), c1)
          else none
        else
        if a2 = 2 then
          if ib a1 15360 then
          some ((c1.1 243 (ix a1)), c1)
          else none
        else
        if a2 = 3 then
          if ib a1 15360 then
          some ((c1.1 244 (ix a1)), c1)
          else none
        else
        if a2 = 4 then
          if ib a1 15360 then
          some ((c1.1 245 (ix a1)), c1)
          else none
        else
        some ((-1), c1)
      else
        j24 ()))
set_option maxRecDepth 100000 in
set_option maxHeartbeats 4000000 in
theorem sp_127 {F Lo n : Nat} {a1 : Int32} {a2 : Int32} {c y : cS} {w : cW} {K : Int32 × cS → Prop} {Q : ((Option Value) ⊕ String) → List va_E → Prop} (hw : rOK fm w) (hF : 1 ≤ F) (hLo : 20 ≤ Lo)  (h : wp (d_127 n a1 a2 c) K) (hQ : ∀ r, K r → Q (.inl (some (.int r.1))) (hq false r.2 y w)) : rs (rt_P sc fm) 127 F Lo 0 [(0, .ref 174), (1, .int a1), (2, .int a2)] [] (hq false c y w) Q := by
  unfold d_127 at h
  obtain ⟨lv, elv⟩ : ∃ lv : rx_L, lv = [(0, .ref 174), (1, .int a1), (2, .int a2)] := ⟨_, rfl⟩
  rw [← elv]
  have l0 : rx_ld lv 0 = some (.ref 174) := by rw [elv]; rfl
  have l1 : rx_ld lv 1 = some (.int a1) := by rw [elv]; rfl
  have l2 : rx_ld lv 2 = some (.int a2) := by rw [elv]; rfl
  refine rs_aldn wi_127_0 l0 ?_
  refine rs_pure wi_127_1 rfl ?_
  refine rs_topi (v := 0) (by decide) ?_
  obtain ⟨c1, e2, h⟩ := wp_lt h
  refine dq_pi wi_127_2 wp_127_356 tf_174_0 rfl rfl e2 ?_
  refine rs_aldn wi_127_5 l0 ?_
  refine dq_gi wi_127_6 wf_127_292 tf_174_97 ?_
  refine wp_jn (B := fun p3 : Unit => ∀ lv, rs (rt_P sc fm) 127 F Lo 24 lv [] (hq false c1 y w) Q) h (fun p3 h lv => ?_) (fun j24 hj24 h => ?_)
  ·
    refine rs_pure wi_127_24 rfl ?_
    refine rs_topi (v := (-1)) (by decide) ?_
    exact rs_iret wi_127_25 wr_127 rfl (hQ ((-1), c1) h)
  refine rs_iflt (tg := 24) wi_127_9 ⟨by decide, by decide⟩ (fun q => ?_) (fun q => ?_)
  ·
    have h := wp_pos h q
    exact hj24 _ h _
  ·
    have h := wp_neg h q
    refine rs_ildn wi_127_12 l1 ?_
    refine rs_iflt (tg := 24) wi_127_13 ⟨by decide, by decide⟩ (fun q => ?_) (fun q => ?_)
    ·
      have h := wp_pos h q
      exact hj24 _ h _
    ·
      have h := wp_neg h q
      refine rs_ildn wi_127_16 l1 ?_
      refine rs_aldn wi_127_17 l0 ?_
      refine dq_gi wi_127_18 wf_127_859 tf_174_91 ?_
      refine rs_iclt (tg := 26) wi_127_21 ⟨by decide, by decide⟩ (fun q => ?_) (fun q => ?_)
      ·
        have h := wp_pos h q
        refine rs_ildn wi_127_26 l2 ?_
        by_cases q4 : a2 = 0
        ·
          have h := wp_pos h q4
          refine rs_tsk (tg := 60) (off := 33) (v := 0) wi_127_27 q4 (by decide) (by decide) ⟨by decide, by decide⟩ ?_
          refine rs_aldn wi_127_60 l0 ?_
          refine dq_gr wi_127_61 wf_127_277 tf_174_92 ?_
          refine rs_ildn wi_127_64 l1 ?_
          obtain ⟨g5, h⟩ := wp_gd h
          refine dq_iald wi_127_65 t_241 g5 ?_
          refine rs_S wi_127_66 wc_127_661 (Or.inl rfl) rfl (Nat.le_trans (by decide) hF) (ml_le wm_422 (Nat.le_trans (by decide) hLo)) rfl (sp_422 (Nat.le_trans (by decide : 0 ≤ 1 - 1) (Nat.sub_le_sub_right hF 1)) (ml_sub wm_422 (Nat.le_trans (by decide : 0 ≤ 20 - 20) (Nat.sub_le_sub_right hLo 20))) (wp_bind h) (fun v6 h => rs_back1 ?_))
          exact rs_iret wi_127_69 wr_127 rfl (hQ (v6, c1) h)
        have h := wp_neg h q4
        by_cases q7 : a2 = 1
        ·
          have h := wp_pos h q7
          refine rs_tsk (tg := 70) (off := 43) (v := 1) wi_127_27 q7 (by decide) (by decide) ⟨by decide, by decide⟩ ?_
          refine rs_aldn wi_127_70 l0 ?_
          refine dq_gr wi_127_71 wf_127_280 tf_174_93 ?_
          refine rs_ildn wi_127_74 l1 ?_
          obtain ⟨g8, h⟩ := wp_gd h
          refine dq_iald wi_127_75 t_242 g8 ?_
          exact rs_iret wi_127_76 wr_127 rfl (hQ ((c1.1 242 (ix a1)), c1) h)
        have h := wp_neg h q7
        by_cases q9 : a2 = 2
        ·
          have h := wp_pos h q9
          refine rs_tsk (tg := 77) (off := 50) (v := 2) wi_127_27 q9 (by decide) (by decide) ⟨by decide, by decide⟩ ?_
          refine rs_aldn wi_127_77 l0 ?_
          refine dq_gr wi_127_78 wf_127_283 tf_174_94 ?_
          refine rs_ildn wi_127_81 l1 ?_
          obtain ⟨g10, h⟩ := wp_gd h
          refine dq_iald wi_127_82 t_243 g10 ?_
          exact rs_iret wi_127_83 wr_127 rfl (hQ ((c1.1 243 (ix a1)), c1) h)
        have h := wp_neg h q9
        by_cases q11 : a2 = 3
        ·
          have h := wp_pos h q11
          refine rs_tsk (tg := 84) (off := 57) (v := 3) wi_127_27 q11 (by decide) (by decide) ⟨by decide, by decide⟩ ?_
          refine rs_aldn wi_127_84 l0 ?_
          refine dq_gr wi_127_85 wf_127_286 tf_174_95 ?_
          refine rs_ildn wi_127_88 l1 ?_
          obtain ⟨g12, h⟩ := wp_gd h
          refine dq_iald wi_127_89 t_244 g12 ?_
          exact rs_iret wi_127_90 wr_127 rfl (hQ ((c1.1 244 (ix a1)), c1) h)
        have h := wp_neg h q11
        by_cases q13 : a2 = 4
        ·
          have h := wp_pos h q13
          refine rs_tsk (tg := 91) (off := 64) (v := 4) wi_127_27 q13 (by decide) (by decide) ⟨by decide, by decide⟩ ?_
          refine rs_aldn wi_127_91 l0 ?_
          refine dq_gr wi_127_92 wf_127_289 tf_174_96 ?_
          refine rs_ildn wi_127_95 l1 ?_
          obtain ⟨g14, h⟩ := wp_gd h
          refine dq_iald wi_127_96 t_245 g14 ?_
          exact rs_iret wi_127_97 wr_127 rfl (hQ ((c1.1 245 (ix a1)), c1) h)
        have h := wp_neg h q13
        refine rs_tsd (tg := 98) wi_127_27 (rz_sw fun k k1 k2 => by
          have kk : k = 0 ∨ k = 1 ∨ k = 2 ∨ k = 3 ∨ k = 4 := by omega
          rcases kk with rfl | rfl | rfl | rfl | rfl
          · exact q4
          · exact q7
          · exact q9
          · exact q11
          · exact q13
          ) ⟨by decide, by decide⟩ ?_
        refine rs_pure wi_127_98 rfl ?_
        refine rs_topi (v := (-1)) (by decide) ?_
        exact rs_iret wi_127_99 wr_127 rfl (hQ ((-1), c1) h)
      ·
        have h := wp_neg h q
        exact hj24 _ h _
set_option maxRecDepth 100000 in
theorem wc_128_658 : rx_ct (rt_P sc fm) 128 658 = some (1, 421, 1) := (by decide +kernel : rt_ct 128 658 = some (1, 421, 1))
set_option maxRecDepth 100000 in
theorem wc_128_721 : rx_ct (rt_P sc fm) 128 721 = some (0, 111, 1) := (by decide +kernel : rt_ct 128 721 = some (0, 111, 1))
set_option maxRecDepth 100000 in
theorem wf_128_176 : rx_ft (rt_P sc fm) 128 176 = some (15, 46) := (by decide +kernel : rt_ft 128 176 = some (15, 46))
set_option maxRecDepth 100000 in
theorem wf_128_182 : rx_ft (rt_P sc fm) 128 182 = some (15, 48) := (by decide +kernel : rt_ft 128 182 = some (15, 48))
set_option maxRecDepth 100000 in
theorem wf_128_243 : rx_ft (rt_P sc fm) 128 243 = some (15, 70) := (by decide +kernel : rt_ft 128 243 = some (15, 70))
set_option maxRecDepth 100000 in
theorem wf_128_268 : rx_ft (rt_P sc fm) 128 268 = some (15, 87) := (by decide +kernel : rt_ft 128 268 = some (15, 87))
set_option maxRecDepth 100000 in
theorem wf_128_271 : rx_ft (rt_P sc fm) 128 271 = some (15, 88) := (by decide +kernel : rt_ft 128 271 = some (15, 88))
set_option maxRecDepth 100000 in
theorem wf_128_292 : rx_ft (rt_P sc fm) 128 292 = some (15, 97) := (by decide +kernel : rt_ft 128 292 = some (15, 97))
theorem wi_128_0 : ri (rt_P sc fm) 128 0 (.aload_n 0) (1) := ri_of (by decide +kernel) rfl
theorem wi_128_1 : ri (rt_P sc fm) 128 1 (.iconst 0) (2) := ri_of (by decide +kernel) rfl
theorem wi_128_101 : ri (rt_P sc fm) 128 101 (.iload 5) (103) := ri_of (by decide +kernel) rfl
theorem wi_128_103 : ri (rt_P sc fm) 128 103 (.iaload) (104) := ri_of (by decide +kernel) rfl
theorem wi_128_104 : ri (rt_P sc fm) 128 104 (.if_icmp .lt 5) (107) := ri_of (by decide +kernel) rfl
theorem wi_128_107 : ri (rt_P sc fm) 128 107 (.iconst (-1)) (108) := ri_of (by decide +kernel) rfl
theorem wi_128_108 : ri (rt_P sc fm) 128 108 (.ireturn) (109) := ri_of (by decide +kernel) rfl
theorem wi_128_109 : ri (rt_P sc fm) 128 109 (.aload_n 0) (110) := ri_of (by decide +kernel) rfl
theorem wi_128_110 : ri (rt_P sc fm) 128 110 (.getfield 268) (113) := ri_of (by decide +kernel) rfl
theorem wi_128_113 : ri (rt_P sc fm) 128 113 (.bipush 16) (115) := ri_of (by decide +kernel) rfl
theorem wi_128_115 : ri (rt_P sc fm) 128 115 (.iload 5) (117) := ri_of (by decide +kernel) rfl
theorem wi_128_117 : ri (rt_P sc fm) 128 117 (.imul) (118) := ri_of (by decide +kernel) rfl
theorem wi_128_118 : ri (rt_P sc fm) 128 118 (.iload_n 3) (119) := ri_of (by decide +kernel) rfl
theorem wi_128_119 : ri (rt_P sc fm) 128 119 (.iadd) (120) := ri_of (by decide +kernel) rfl
theorem wi_128_12 : ri (rt_P sc fm) 128 12 (.aload_n 0) (13) := ri_of (by decide +kernel) rfl
theorem wi_128_120 : ri (rt_P sc fm) 128 120 (.iaload) (121) := ri_of (by decide +kernel) rfl
theorem wi_128_121 : ri (rt_P sc fm) 128 121 (.ireturn) (122) := ri_of (by decide +kernel) rfl
theorem wi_128_13 : ri (rt_P sc fm) 128 13 (.iload_n 1) (14) := ri_of (by decide +kernel) rfl
theorem wi_128_14 : ri (rt_P sc fm) 128 14 (.invokevirtual 721) (17) := ri_of (by decide +kernel) rfl
theorem wi_128_17 : ri (rt_P sc fm) 128 17 (.ifCond .eq 7) (20) := ri_of (by decide +kernel) rfl
theorem wi_128_2 : ri (rt_P sc fm) 128 2 (.putfield 356) (5) := ri_of (by decide +kernel) rfl
theorem wi_128_20 : ri (rt_P sc fm) 128 20 (.iload_n 3) (21) := ri_of (by decide +kernel) rfl
theorem wi_128_21 : ri (rt_P sc fm) 128 21 (.ifCond .ge 5) (24) := ri_of (by decide +kernel) rfl
theorem wi_128_24 : ri (rt_P sc fm) 128 24 (.iconst (-1)) (25) := ri_of (by decide +kernel) rfl
theorem wi_128_25 : ri (rt_P sc fm) 128 25 (.ireturn) (26) := ri_of (by decide +kernel) rfl
theorem wi_128_26 : ri (rt_P sc fm) 128 26 (.iload_n 1) (27) := ri_of (by decide +kernel) rfl
theorem wi_128_27 : ri (rt_P sc fm) 128 27 (.invokestatic 658) (30) := ri_of (by decide +kernel) rfl
theorem wi_128_30 : ri (rt_P sc fm) 128 30 (.istore 4) (32) := ri_of (by decide +kernel) rfl
theorem wi_128_32 : ri (rt_P sc fm) 128 32 (.iload_n 2) (33) := ri_of (by decide +kernel) rfl
theorem wi_128_33 : ri (rt_P sc fm) 128 33 (.ifCond .lt 29) (36) := ri_of (by decide +kernel) rfl
theorem wi_128_36 : ri (rt_P sc fm) 128 36 (.iload_n 2) (37) := ri_of (by decide +kernel) rfl
theorem wi_128_37 : ri (rt_P sc fm) 128 37 (.aload_n 0) (38) := ri_of (by decide +kernel) rfl
theorem wi_128_38 : ri (rt_P sc fm) 128 38 (.getfield 182) (41) := ri_of (by decide +kernel) rfl
theorem wi_128_41 : ri (rt_P sc fm) 128 41 (.iload 4) (43) := ri_of (by decide +kernel) rfl
theorem wi_128_43 : ri (rt_P sc fm) 128 43 (.iaload) (44) := ri_of (by decide +kernel) rfl
theorem wi_128_44 : ri (rt_P sc fm) 128 44 (.if_icmp .ge 18) (47) := ri_of (by decide +kernel) rfl
theorem wi_128_47 : ri (rt_P sc fm) 128 47 (.aload_n 0) (48) := ri_of (by decide +kernel) rfl
theorem wi_128_48 : ri (rt_P sc fm) 128 48 (.getfield 271) (51) := ri_of (by decide +kernel) rfl
theorem wi_128_5 : ri (rt_P sc fm) 128 5 (.aload_n 0) (6) := ri_of (by decide +kernel) rfl
theorem wi_128_51 : ri (rt_P sc fm) 128 51 (.bipush 40) (53) := ri_of (by decide +kernel) rfl
theorem wi_128_53 : ri (rt_P sc fm) 128 53 (.iload 4) (55) := ri_of (by decide +kernel) rfl
theorem wi_128_55 : ri (rt_P sc fm) 128 55 (.imul) (56) := ri_of (by decide +kernel) rfl
theorem wi_128_56 : ri (rt_P sc fm) 128 56 (.iload_n 2) (57) := ri_of (by decide +kernel) rfl
theorem wi_128_57 : ri (rt_P sc fm) 128 57 (.iadd) (58) := ri_of (by decide +kernel) rfl
theorem wi_128_58 : ri (rt_P sc fm) 128 58 (.baload) (59) := ri_of (by decide +kernel) rfl
theorem wi_128_59 : ri (rt_P sc fm) 128 59 (.ifCond .ne 5) (62) := ri_of (by decide +kernel) rfl
theorem wi_128_6 : ri (rt_P sc fm) 128 6 (.getfield 292) (9) := ri_of (by decide +kernel) rfl
theorem wi_128_62 : ri (rt_P sc fm) 128 62 (.iconst (-1)) (63) := ri_of (by decide +kernel) rfl
theorem wi_128_63 : ri (rt_P sc fm) 128 63 (.ireturn) (64) := ri_of (by decide +kernel) rfl
theorem wi_128_64 : ri (rt_P sc fm) 128 64 (.bipush 40) (66) := ri_of (by decide +kernel) rfl
theorem wi_128_66 : ri (rt_P sc fm) 128 66 (.iload 4) (68) := ri_of (by decide +kernel) rfl
theorem wi_128_68 : ri (rt_P sc fm) 128 68 (.imul) (69) := ri_of (by decide +kernel) rfl
theorem wi_128_69 : ri (rt_P sc fm) 128 69 (.iload_n 2) (70) := ri_of (by decide +kernel) rfl
theorem wi_128_70 : ri (rt_P sc fm) 128 70 (.iadd) (71) := ri_of (by decide +kernel) rfl
theorem wi_128_71 : ri (rt_P sc fm) 128 71 (.istore 5) (73) := ri_of (by decide +kernel) rfl
theorem wi_128_73 : ri (rt_P sc fm) 128 73 (.iload_n 3) (74) := ri_of (by decide +kernel) rfl
theorem wi_128_74 : ri (rt_P sc fm) 128 74 (.bipush 8) (76) := ri_of (by decide +kernel) rfl
theorem wi_128_76 : ri (rt_P sc fm) 128 76 (.if_icmp .ge 17) (79) := ri_of (by decide +kernel) rfl
theorem wi_128_79 : ri (rt_P sc fm) 128 79 (.iload_n 3) (80) := ri_of (by decide +kernel) rfl
theorem wi_128_80 : ri (rt_P sc fm) 128 80 (.aload_n 0) (81) := ri_of (by decide +kernel) rfl
theorem wi_128_81 : ri (rt_P sc fm) 128 81 (.getfield 176) (84) := ri_of (by decide +kernel) rfl
theorem wi_128_84 : ri (rt_P sc fm) 128 84 (.iload 4) (86) := ri_of (by decide +kernel) rfl
theorem wi_128_86 : ri (rt_P sc fm) 128 86 (.iaload) (87) := ri_of (by decide +kernel) rfl
theorem wi_128_87 : ri (rt_P sc fm) 128 87 (.if_icmp .lt 22) (90) := ri_of (by decide +kernel) rfl
theorem wi_128_9 : ri (rt_P sc fm) 128 9 (.ifCond .lt 15) (12) := ri_of (by decide +kernel) rfl
theorem wi_128_90 : ri (rt_P sc fm) 128 90 (.goto 17) (93) := ri_of (by decide +kernel) rfl
theorem wi_128_93 : ri (rt_P sc fm) 128 93 (.iload_n 3) (94) := ri_of (by decide +kernel) rfl
theorem wi_128_94 : ri (rt_P sc fm) 128 94 (.bipush 8) (96) := ri_of (by decide +kernel) rfl
theorem wi_128_96 : ri (rt_P sc fm) 128 96 (.isub) (97) := ri_of (by decide +kernel) rfl
theorem wi_128_97 : ri (rt_P sc fm) 128 97 (.aload_n 0) (98) := ri_of (by decide +kernel) rfl
theorem wi_128_98 : ri (rt_P sc fm) 128 98 (.getfield 243) (101) := ri_of (by decide +kernel) rfl
set_option maxRecDepth 100000 in
theorem wp_128_356 : rx_pt (rt_P sc fm) 128 356 = some (15, 0, .int) := (by decide +kernel : rt_pt 128 356 = some (15, 0, .int))
set_option maxRecDepth 100000 in
theorem wr_128 : rx_rt (rt_P sc fm) 128 = (some FieldType.int) := (by decide +kernel : rt_rt 128 = (some FieldType.int))
/-- MarkHouseModel.state(III)I -/
def d_128 (n : Nat) (a1 : Int32) (a2 : Int32) (a3 : Int32) (c : cS) : Option (Int32 × cS) :=
  lt (pI c 174 0 0) (fun c1 =>
  jn (fun p3 : Unit =>
    some ((-1), c1))
  (fun j24 =>
  if (c1.1 174 97) < 0 then
    j24 ()
  else
    Option.bind (d_111 n a1 c1) (fun v4 =>
    if v4 = 0 then
      j24 ()
    else
      if 0 ≤ a3 then
        Option.bind (d_421 n a1) (fun v5 =>
        jn (fun p7 : Unit =>
          some ((-1), c1))
        (fun j62 =>
        if a2 < 0 then
          j62 ()
        else
          if ib v5 96 then
          if (c1.1 210 (ix v5)) ≤ a2 then
            j62 ()
          else
            if ib ((40 * v5) + a2) 3840 then
            if (c1.1 239 (ix ((40 * v5) + a2))) = 0 then
              j62 ()
            else
              lt (((40 * v5) + a2) : Int32) (fun v11 =>
              jn (fun p13 : Unit =>
                if ib ((16 * v11) + a3) 61440 then
                some ((c1.1 238 (ix ((16 * v11) + a3))), c1)
                else none)
              (fun j109 =>
              jn (fun p15 : Unit =>
                some ((-1), c1))
              (fun j107 =>
              if 8 ≤ a3 then
                if ib v11 3840 then
                if (a3 - 8) < (c1.1 230 (ix v11)) then
                  j109 ()
                else
                  j107 ()
                else none
              else
                if ib v5 96 then
                if a3 < (c1.1 208 (ix v5)) then
                  j109 ()
                else
                  j107 ()
                else none)))
            else none
          else none))
      else
        j24 ())))
set_option maxRecDepth 100000 in
set_option maxHeartbeats 4000000 in
theorem sp_128 {F Lo n : Nat} {a1 : Int32} {a2 : Int32} {a3 : Int32} {c y : cS} {w : cW} {K : Int32 × cS → Prop} {Q : ((Option Value) ⊕ String) → List va_E → Prop} (hw : rOK fm w) (hF : 2 ≤ F) (hLo : 45 ≤ Lo)  (h : wp (d_128 n a1 a2 a3 c) K) (hQ : ∀ r, K r → Q (.inl (some (.int r.1))) (hq false r.2 y w)) : rs (rt_P sc fm) 128 F Lo 0 [(0, .ref 174), (1, .int a1), (2, .int a2), (3, .int a3)] [] (hq false c y w) Q := by
  unfold d_128 at h
  obtain ⟨lv, elv⟩ : ∃ lv : rx_L, lv = [(0, .ref 174), (1, .int a1), (2, .int a2), (3, .int a3)] := ⟨_, rfl⟩
  rw [← elv]
  have l0 : rx_ld lv 0 = some (.ref 174) := by rw [elv]; rfl
  have l1 : rx_ld lv 1 = some (.int a1) := by rw [elv]; rfl
  have l2 : rx_ld lv 2 = some (.int a2) := by rw [elv]; rfl
  have l3 : rx_ld lv 3 = some (.int a3) := by rw [elv]; rfl
  refine rs_aldn wi_128_0 l0 ?_
  refine rs_pure wi_128_1 rfl ?_
  refine rs_topi (v := 0) (by decide) ?_
  obtain ⟨c1, e2, h⟩ := wp_lt h
  refine dq_pi wi_128_2 wp_128_356 tf_174_0 rfl rfl e2 ?_
  refine rs_aldn wi_128_5 l0 ?_
  refine dq_gi wi_128_6 wf_128_292 tf_174_97 ?_
  refine wp_jn (B := fun p3 : Unit => ∀ lv, rs (rt_P sc fm) 128 F Lo 24 lv [] (hq false c1 y w) Q) h (fun p3 h lv => ?_) (fun j24 hj24 h => ?_)
  ·
    refine rs_pure wi_128_24 rfl ?_
    refine rs_topi (v := (-1)) (by decide) ?_
    exact rs_iret wi_128_25 wr_128 rfl (hQ ((-1), c1) h)
  refine rs_iflt (tg := 24) wi_128_9 ⟨by decide, by decide⟩ (fun q => ?_) (fun q => ?_)
  ·
    have h := wp_pos h q
    exact hj24 _ h _
  ·
    have h := wp_neg h q
    refine rs_aldn wi_128_12 l0 ?_
    refine rs_ildn wi_128_13 l1 ?_
    refine rs_V wi_128_14 wc_128_721 rfl (dq_isa tf_174_0 wa_15_111) (Nat.le_trans (by decide) hF) (ml_le wm_111 (Nat.le_trans (by decide) hLo)) rfl (sp_111 hw (Nat.le_trans (by decide : 1 ≤ 2 - 1) (Nat.sub_le_sub_right hF 1)) (ml_sub wm_111 (Nat.le_trans (by decide : 24 ≤ 45 - 21) (Nat.sub_le_sub_right hLo 21))) (wp_bind h) (fun v4 h => rs_back1 ?_))
    refine rs_ifeq (tg := 24) wi_128_17 ⟨by decide, by decide⟩ (fun q => ?_) (fun q => ?_)
    ·
      have h := wp_pos h q
      exact hj24 _ h _
    ·
      have h := wp_neg h q
      refine rs_ildn wi_128_20 l3 ?_
      refine rs_ifge (tg := 26) wi_128_21 ⟨by decide, by decide⟩ (fun q => ?_) (fun q => ?_)
      ·
        have h := wp_pos h q
        refine rs_ildn wi_128_26 l1 ?_
        refine rs_S wi_128_27 wc_128_658 (Or.inl rfl) rfl (Nat.le_trans (by decide) hF) (ml_le wm_421 (Nat.le_trans (by decide) hLo)) rfl (sp_421 (Nat.le_trans (by decide : 0 ≤ 2 - 1) (Nat.sub_le_sub_right hF 1)) (ml_sub wm_421 (Nat.le_trans (by decide : 0 ≤ 45 - 20) (Nat.sub_le_sub_right hLo 20))) (wp_bind h) (fun v5 h => rs_back1 ?_))
        refine dl_ist wi_128_30 rfl (fun lv l4 t6 => ?_)
        have l0 := t6 _ _ (by decide) (Or.inl rfl) l0
        have l2 := t6 _ _ (by decide) (Or.inl rfl) l2
        have l3 := t6 _ _ (by decide) (Or.inl rfl) l3
        refine rs_ildn wi_128_32 l2 ?_
        refine wp_jn (B := fun p7 : Unit => ∀ lv, rs (rt_P sc fm) 128 F Lo 62 lv [] (hq false c1 y w) Q) h (fun p7 h lv => ?_) (fun j62 hj62 h => ?_)
        ·
          refine rs_pure wi_128_62 rfl ?_
          refine rs_topi (v := (-1)) (by decide) ?_
          exact rs_iret wi_128_63 wr_128 rfl (hQ ((-1), c1) h)
        refine rs_iflt (tg := 62) wi_128_33 ⟨by decide, by decide⟩ (fun q => ?_) (fun q => ?_)
        ·
          have h := wp_pos h q
          exact hj62 _ h _
        ·
          have h := wp_neg h q
          refine rs_ildn wi_128_36 l2 ?_
          refine rs_aldn wi_128_37 l0 ?_
          refine dq_gr wi_128_38 wf_128_182 tf_174_48 ?_
          refine rs_ild wi_128_41 l4 ?_
          obtain ⟨g8, h⟩ := wp_gd h
          refine dq_iald wi_128_43 t_210 g8 ?_
          refine rs_icge (tg := 62) wi_128_44 ⟨by decide, by decide⟩ (fun q => ?_) (fun q => ?_)
          ·
            have h := wp_pos h q
            exact hj62 _ h _
          ·
            have h := wp_neg h q
            refine rs_aldn wi_128_47 l0 ?_
            refine dq_gr wi_128_48 wf_128_271 tf_174_88 ?_
            refine rs_pure wi_128_51 rfl ?_
            refine rs_topi (v := 40) (by decide) ?_
            refine rs_ild wi_128_53 l4 ?_
            refine rs_pure wi_128_55 rfl ?_
            refine rs_ildn wi_128_56 l2 ?_
            refine rs_pure wi_128_57 rfl ?_
            obtain ⟨g9, h⟩ := wp_gd h
            refine dq_zald wi_128_58 t_239 g9 ?_
            refine rs_ifne (tg := 64) wi_128_59 ⟨by decide, by decide⟩ (fun q => ?_) (fun q => ?_)
            ·
              have h := wp_neg h q
              refine rs_pure wi_128_64 rfl ?_
              refine rs_topi (v := 40) (by decide) ?_
              refine rs_ild wi_128_66 l4 ?_
              refine rs_pure wi_128_68 rfl ?_
              refine rs_ildn wi_128_69 l2 ?_
              refine rs_pure wi_128_70 rfl ?_
              obtain ⟨v11, e12, h⟩ := wp_lt h
              refine rs_topi e12 ?_
              refine dl_ist wi_128_71 rfl (fun lv l5 t10 => ?_)
              have l0 := t10 _ _ (by decide) (Or.inl rfl) l0
              have l3 := t10 _ _ (by decide) (Or.inl rfl) l3
              have l4 := t10 _ _ (by decide) (Or.inl rfl) l4
              refine rs_ildn wi_128_73 l3 ?_
              refine rs_pure wi_128_74 rfl ?_
              refine rs_topi (v := 8) (by decide) ?_
              refine wp_jn (B := fun p13 : Unit => ∀ lv, rx_ld lv 0 = some (.ref 174) → rx_ld lv 3 = some (.int a3) → rx_ld lv 5 = some (.int v11) → rs (rt_P sc fm) 128 F Lo 109 lv [] (hq false c1 y w) Q) h (fun p13 h lv l0 l3 l5 => ?_) (fun j109 hj109 h => ?_)
              ·
                refine rs_aldn wi_128_109 l0 ?_
                refine dq_gr wi_128_110 wf_128_268 tf_174_87 ?_
                refine rs_pure wi_128_113 rfl ?_
                refine rs_topi (v := 16) (by decide) ?_
                refine rs_ild wi_128_115 l5 ?_
                refine rs_pure wi_128_117 rfl ?_
                refine rs_ildn wi_128_118 l3 ?_
                refine rs_pure wi_128_119 rfl ?_
                obtain ⟨g14, h⟩ := wp_gd h
                refine dq_iald wi_128_120 t_238 g14 ?_
                exact rs_iret wi_128_121 wr_128 rfl (hQ ((c1.1 238 (ix ((16 * v11) + a3))), c1) h)
              refine wp_jn (B := fun p15 : Unit => ∀ lv, rs (rt_P sc fm) 128 F Lo 107 lv [] (hq false c1 y w) Q) h (fun p15 h lv => ?_) (fun j107 hj107 h => ?_)
              ·
                refine rs_pure wi_128_107 rfl ?_
                refine rs_topi (v := (-1)) (by decide) ?_
                exact rs_iret wi_128_108 wr_128 rfl (hQ ((-1), c1) h)
              refine rs_icge (tg := 93) wi_128_76 ⟨by decide, by decide⟩ (fun q => ?_) (fun q => ?_)
              ·
                have h := wp_pos h q
                refine rs_ildn wi_128_93 l3 ?_
                refine rs_pure wi_128_94 rfl ?_
                refine rs_topi (v := 8) (by decide) ?_
                refine rs_pure wi_128_96 rfl ?_
                refine rs_aldn wi_128_97 l0 ?_
                refine dq_gr wi_128_98 wf_128_243 tf_174_70 ?_
                refine rs_ild wi_128_101 l5 ?_
                obtain ⟨g16, h⟩ := wp_gd h
                refine dq_iald wi_128_103 t_230 g16 ?_
                refine rs_iclt (tg := 109) wi_128_104 ⟨by decide, by decide⟩ (fun q => ?_) (fun q => ?_)
                ·
                  have h := wp_pos h q
                  exact hj109 _ h _ l0 l3 l5
                ·
                  have h := wp_neg h q
                  exact hj107 _ h _
              ·
                have h := wp_neg h q
                refine rs_ildn wi_128_79 l3 ?_
                refine rs_aldn wi_128_80 l0 ?_
                refine dq_gr wi_128_81 wf_128_176 tf_174_46 ?_
                refine rs_ild wi_128_84 l4 ?_
                obtain ⟨g17, h⟩ := wp_gd h
                refine dq_iald wi_128_86 t_208 g17 ?_
                refine rs_iclt (tg := 109) wi_128_87 ⟨by decide, by decide⟩ (fun q => ?_) (fun q => ?_)
                ·
                  have h := wp_pos h q
                  exact hj109 _ h _ l0 l3 l5
                ·
                  have h := wp_neg h q
                  refine rs_goto (tg := 107) wi_128_90 ⟨by decide, by decide⟩ ?_
                  exact hj107 _ h _
            ·
              have h := wp_pos h q
              exact hj62 _ h _
      ·
        have h := wp_neg h q
        exact hj24 _ h _
end D58
