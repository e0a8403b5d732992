/-! THE CODE AS PURE PROGRAMS, 20: by wip/whole/dc.py -/
section D61
variable {sc : Nat × (Nat → Int32)} {fm : Value}
set_option maxRecDepth 100000 in
theorem wc_143_462 : rx_ct (rt_P sc fm) 143 462 = some (0, 373, 1) := (by decide +kernel : rt_ct 143 462 = some (0, 373, 1))
set_option maxRecDepth 100000 in
theorem wc_143_712 : rx_ct (rt_P sc fm) 143 712 = some (0, 428, 2) := (by decide +kernel : rt_ct 143 712 = some (0, 428, 2))
set_option maxRecDepth 100000 in
theorem wc_143_985 : rx_ct (rt_P sc fm) 143 985 = some (0, 474, 3) := (by decide +kernel : rt_ct 143 985 = some (0, 474, 3))
set_option maxRecDepth 100000 in
theorem wc_143_989 : rx_ct (rt_P sc fm) 143 989 = some (0, 478, 1) := (by decide +kernel : rt_ct 143 989 = some (0, 478, 1))
set_option maxRecDepth 100000 in
theorem wf_143_252 : rx_ft (rt_P sc fm) 143 252 = some (15, 75) := (by decide +kernel : rt_ft 143 252 = some (15, 75))
set_option maxRecDepth 100000 in
theorem wf_143_344 : rx_ft (rt_P sc fm) 143 344 = some (15, 136) := (by decide +kernel : rt_ft 143 344 = some (15, 136))
set_option maxRecDepth 100000 in
theorem wf_143_347 : rx_ft (rt_P sc fm) 143 347 = some (15, 137) := (by decide +kernel : rt_ft 143 347 = some (15, 137))
set_option maxRecDepth 100000 in
theorem wf_143_350 : rx_ft (rt_P sc fm) 143 350 = some (15, 138) := (by decide +kernel : rt_ft 143 350 = some (15, 138))
set_option maxRecDepth 100000 in
theorem wf_143_353 : rx_ft (rt_P sc fm) 143 353 = some (15, 139) := (by decide +kernel : rt_ft 143 353 = some (15, 139))
set_option maxRecDepth 100000 in
theorem wf_143_456 : rx_ft (rt_P sc fm) 143 456 = some (15, 37) := (by decide +kernel : rt_ft 143 456 = some (15, 37))
set_option maxRecDepth 100000 in
theorem wf_143_634 : rx_ft (rt_P sc fm) 143 634 = some (15, 14) := (by decide +kernel : rt_ft 143 634 = some (15, 14))
set_option maxRecDepth 100000 in
theorem wf_143_678 : rx_ft (rt_P sc fm) 143 678 = some (15, 74) := (by decide +kernel : rt_ft 143 678 = some (15, 74))
set_option maxRecDepth 100000 in
theorem wf_143_969 : rx_ft (rt_P sc fm) 143 969 = some (15, 131) := (by decide +kernel : rt_ft 143 969 = some (15, 131))
theorem wi_143_0 : ri (rt_P sc fm) 143 0 (.aload_n 0) (1) := ri_of (by decide +kernel) rfl
theorem wi_143_1 : ri (rt_P sc fm) 143 1 (.iconst 0) (2) := ri_of (by decide +kernel) rfl
theorem wi_143_100 : ri (rt_P sc fm) 143 100 (.getfield 678) (103) := ri_of (by decide +kernel) rfl
theorem wi_143_103 : ri (rt_P sc fm) 143 103 (.ifCond .le 7) (106) := ri_of (by decide +kernel) rfl
theorem wi_143_106 : ri (rt_P sc fm) 143 106 (.iconst 1) (107) := ri_of (by decide +kernel) rfl
theorem wi_143_107 : ri (rt_P sc fm) 143 107 (.goto 4) (110) := ri_of (by decide +kernel) rfl
theorem wi_143_110 : ri (rt_P sc fm) 143 110 (.iconst 0) (111) := ri_of (by decide +kernel) rfl
theorem wi_143_111 : ri (rt_P sc fm) 143 111 (.bastore) (112) := ri_of (by decide +kernel) rfl
theorem wi_143_112 : ri (rt_P sc fm) 143 112 (.aload_n 0) (113) := ri_of (by decide +kernel) rfl
theorem wi_143_113 : ri (rt_P sc fm) 143 113 (.getfield 353) (116) := ri_of (by decide +kernel) rfl
theorem wi_143_116 : ri (rt_P sc fm) 143 116 (.iload_n 2) (117) := ri_of (by decide +kernel) rfl
theorem wi_143_117 : ri (rt_P sc fm) 143 117 (.aload_n 0) (118) := ri_of (by decide +kernel) rfl
theorem wi_143_118 : ri (rt_P sc fm) 143 118 (.getfield 678) (121) := ri_of (by decide +kernel) rfl
theorem wi_143_12 : ri (rt_P sc fm) 143 12 (.iconst (-1)) (13) := ri_of (by decide +kernel) rfl
theorem wi_143_121 : ri (rt_P sc fm) 143 121 (.ifCond .le 20) (124) := ri_of (by decide +kernel) rfl
theorem wi_143_124 : ri (rt_P sc fm) 143 124 (.aload_n 0) (125) := ri_of (by decide +kernel) rfl
theorem wi_143_125 : ri (rt_P sc fm) 143 125 (.aload_n 0) (126) := ri_of (by decide +kernel) rfl
theorem wi_143_126 : ri (rt_P sc fm) 143 126 (.getfield 252) (129) := ri_of (by decide +kernel) rfl
theorem wi_143_129 : ri (rt_P sc fm) 143 129 (.iconst 0) (130) := ri_of (by decide +kernel) rfl
theorem wi_143_13 : ri (rt_P sc fm) 143 13 (.ireturn) (14) := ri_of (by decide +kernel) rfl
theorem wi_143_130 : ri (rt_P sc fm) 143 130 (.iaload) (131) := ri_of (by decide +kernel) rfl
theorem wi_143_131 : ri (rt_P sc fm) 143 131 (.iload_n 1) (132) := ri_of (by decide +kernel) rfl
theorem wi_143_132 : ri (rt_P sc fm) 143 132 (.ldc2_w 983) (135) := ri_of (by decide +kernel) rfl
theorem wi_143_135 : ri (rt_P sc fm) 143 135 (.invokevirtual 985) (138) := ri_of (by decide +kernel) rfl
theorem wi_143_138 : ri (rt_P sc fm) 143 138 (.goto 4) (141) := ri_of (by decide +kernel) rfl
theorem wi_143_14 : ri (rt_P sc fm) 143 14 (.aload_n 0) (15) := ri_of (by decide +kernel) rfl
theorem wi_143_141 : ri (rt_P sc fm) 143 141 (.lconst 0) (142) := ri_of (by decide +kernel) rfl
theorem wi_143_142 : ri (rt_P sc fm) 143 142 (.lastore) (143) := ri_of (by decide +kernel) rfl
theorem wi_143_143 : ri (rt_P sc fm) 143 143 (.iinc 2 1) (146) := ri_of (by decide +kernel) rfl
theorem wi_143_146 : ri (rt_P sc fm) 143 146 (.goto (-97)) (149) := ri_of (by decide +kernel) rfl
theorem wi_143_149 : ri (rt_P sc fm) 143 149 (.iconst 0) (150) := ri_of (by decide +kernel) rfl
theorem wi_143_15 : ri (rt_P sc fm) 143 15 (.iconst 1) (16) := ri_of (by decide +kernel) rfl
theorem wi_143_150 : ri (rt_P sc fm) 143 150 (.istore_n 2) (151) := ri_of (by decide +kernel) rfl
theorem wi_143_151 : ri (rt_P sc fm) 143 151 (.iload_n 2) (152) := ri_of (by decide +kernel) rfl
theorem wi_143_152 : ri (rt_P sc fm) 143 152 (.aload_n 0) (153) := ri_of (by decide +kernel) rfl
theorem wi_143_153 : ri (rt_P sc fm) 143 153 (.getfield 456) (156) := ri_of (by decide +kernel) rfl
theorem wi_143_156 : ri (rt_P sc fm) 143 156 (.if_icmp .ge 39) (159) := ri_of (by decide +kernel) rfl
theorem wi_143_159 : ri (rt_P sc fm) 143 159 (.aload_n 0) (160) := ri_of (by decide +kernel) rfl
theorem wi_143_16 : ri (rt_P sc fm) 143 16 (.putfield 900) (19) := ri_of (by decide +kernel) rfl
theorem wi_143_160 : ri (rt_P sc fm) 143 160 (.getfield 969) (163) := ri_of (by decide +kernel) rfl
theorem wi_143_163 : ri (rt_P sc fm) 143 163 (.ifCond .ne 32) (166) := ri_of (by decide +kernel) rfl
theorem wi_143_166 : ri (rt_P sc fm) 143 166 (.aload_n 0) (167) := ri_of (by decide +kernel) rfl
theorem wi_143_167 : ri (rt_P sc fm) 143 167 (.getfield 350) (170) := ri_of (by decide +kernel) rfl
theorem wi_143_170 : ri (rt_P sc fm) 143 170 (.iload_n 2) (171) := ri_of (by decide +kernel) rfl
theorem wi_143_171 : ri (rt_P sc fm) 143 171 (.baload) (172) := ri_of (by decide +kernel) rfl
theorem wi_143_172 : ri (rt_P sc fm) 143 172 (.ifCond .eq 17) (175) := ri_of (by decide +kernel) rfl
theorem wi_143_175 : ri (rt_P sc fm) 143 175 (.aload_n 0) (176) := ri_of (by decide +kernel) rfl
theorem wi_143_176 : ri (rt_P sc fm) 143 176 (.getfield 344) (179) := ri_of (by decide +kernel) rfl
theorem wi_143_179 : ri (rt_P sc fm) 143 179 (.iload_n 2) (180) := ri_of (by decide +kernel) rfl
theorem wi_143_180 : ri (rt_P sc fm) 143 180 (.baload) (181) := ri_of (by decide +kernel) rfl
theorem wi_143_181 : ri (rt_P sc fm) 143 181 (.ifCond .ne 8) (184) := ri_of (by decide +kernel) rfl
theorem wi_143_184 : ri (rt_P sc fm) 143 184 (.aload_n 0) (185) := ri_of (by decide +kernel) rfl
theorem wi_143_185 : ri (rt_P sc fm) 143 185 (.iload_n 2) (186) := ri_of (by decide +kernel) rfl
theorem wi_143_186 : ri (rt_P sc fm) 143 186 (.invokevirtual 989) (189) := ri_of (by decide +kernel) rfl
theorem wi_143_189 : ri (rt_P sc fm) 143 189 (.iinc 2 1) (192) := ri_of (by decide +kernel) rfl
theorem wi_143_19 : ri (rt_P sc fm) 143 19 (.aload_n 0) (20) := ri_of (by decide +kernel) rfl
theorem wi_143_192 : ri (rt_P sc fm) 143 192 (.goto (-41)) (195) := ri_of (by decide +kernel) rfl
theorem wi_143_195 : ri (rt_P sc fm) 143 195 (.aload_n 0) (196) := ri_of (by decide +kernel) rfl
theorem wi_143_196 : ri (rt_P sc fm) 143 196 (.getfield 969) (199) := ri_of (by decide +kernel) rfl
theorem wi_143_199 : ri (rt_P sc fm) 143 199 (.ireturn) (200) := ri_of (by decide +kernel) rfl
theorem wi_143_2 : ri (rt_P sc fm) 143 2 (.putfield 356) (5) := ri_of (by decide +kernel) rfl
theorem wi_143_20 : ri (rt_P sc fm) 143 20 (.iconst 0) (21) := ri_of (by decide +kernel) rfl
theorem wi_143_21 : ri (rt_P sc fm) 143 21 (.putfield 969) (24) := ri_of (by decide +kernel) rfl
theorem wi_143_24 : ri (rt_P sc fm) 143 24 (.aload_n 0) (25) := ri_of (by decide +kernel) rfl
theorem wi_143_25 : ri (rt_P sc fm) 143 25 (.iconst (-1)) (26) := ri_of (by decide +kernel) rfl
theorem wi_143_26 : ri (rt_P sc fm) 143 26 (.putfield 972) (29) := ri_of (by decide +kernel) rfl
theorem wi_143_29 : ri (rt_P sc fm) 143 29 (.aload_n 0) (30) := ri_of (by decide +kernel) rfl
theorem wi_143_30 : ri (rt_P sc fm) 143 30 (.iconst (-1)) (31) := ri_of (by decide +kernel) rfl
theorem wi_143_31 : ri (rt_P sc fm) 143 31 (.putfield 975) (34) := ri_of (by decide +kernel) rfl
theorem wi_143_34 : ri (rt_P sc fm) 143 34 (.aload_n 0) (35) := ri_of (by decide +kernel) rfl
theorem wi_143_35 : ri (rt_P sc fm) 143 35 (.iconst 0) (36) := ri_of (by decide +kernel) rfl
theorem wi_143_36 : ri (rt_P sc fm) 143 36 (.putfield 978) (39) := ri_of (by decide +kernel) rfl
theorem wi_143_39 : ri (rt_P sc fm) 143 39 (.aload_n 0) (40) := ri_of (by decide +kernel) rfl
theorem wi_143_40 : ri (rt_P sc fm) 143 40 (.ldc2_w 981) (43) := ri_of (by decide +kernel) rfl
theorem wi_143_43 : ri (rt_P sc fm) 143 43 (.invokevirtual 462) (46) := ri_of (by decide +kernel) rfl
theorem wi_143_46 : ri (rt_P sc fm) 143 46 (.istore_n 1) (47) := ri_of (by decide +kernel) rfl
theorem wi_143_47 : ri (rt_P sc fm) 143 47 (.iconst 0) (48) := ri_of (by decide +kernel) rfl
theorem wi_143_48 : ri (rt_P sc fm) 143 48 (.istore_n 2) (49) := ri_of (by decide +kernel) rfl
theorem wi_143_49 : ri (rt_P sc fm) 143 49 (.iload_n 2) (50) := ri_of (by decide +kernel) rfl
theorem wi_143_5 : ri (rt_P sc fm) 143 5 (.aload_n 0) (6) := ri_of (by decide +kernel) rfl
theorem wi_143_50 : ri (rt_P sc fm) 143 50 (.aload_n 0) (51) := ri_of (by decide +kernel) rfl
theorem wi_143_51 : ri (rt_P sc fm) 143 51 (.getfield 456) (54) := ri_of (by decide +kernel) rfl
theorem wi_143_54 : ri (rt_P sc fm) 143 54 (.if_icmp .ge 95) (57) := ri_of (by decide +kernel) rfl
theorem wi_143_57 : ri (rt_P sc fm) 143 57 (.aload_n 0) (58) := ri_of (by decide +kernel) rfl
theorem wi_143_58 : ri (rt_P sc fm) 143 58 (.getfield 344) (61) := ri_of (by decide +kernel) rfl
theorem wi_143_6 : ri (rt_P sc fm) 143 6 (.getfield 634) (9) := ri_of (by decide +kernel) rfl
theorem wi_143_61 : ri (rt_P sc fm) 143 61 (.iload_n 2) (62) := ri_of (by decide +kernel) rfl
theorem wi_143_62 : ri (rt_P sc fm) 143 62 (.iconst 0) (63) := ri_of (by decide +kernel) rfl
theorem wi_143_63 : ri (rt_P sc fm) 143 63 (.bastore) (64) := ri_of (by decide +kernel) rfl
theorem wi_143_64 : ri (rt_P sc fm) 143 64 (.aload_n 0) (65) := ri_of (by decide +kernel) rfl
theorem wi_143_65 : ri (rt_P sc fm) 143 65 (.getfield 347) (68) := ri_of (by decide +kernel) rfl
theorem wi_143_68 : ri (rt_P sc fm) 143 68 (.iload_n 2) (69) := ri_of (by decide +kernel) rfl
theorem wi_143_69 : ri (rt_P sc fm) 143 69 (.iconst 0) (70) := ri_of (by decide +kernel) rfl
theorem wi_143_70 : ri (rt_P sc fm) 143 70 (.bastore) (71) := ri_of (by decide +kernel) rfl
theorem wi_143_71 : ri (rt_P sc fm) 143 71 (.aload_n 0) (72) := ri_of (by decide +kernel) rfl
theorem wi_143_72 : ri (rt_P sc fm) 143 72 (.getfield 350) (75) := ri_of (by decide +kernel) rfl
theorem wi_143_75 : ri (rt_P sc fm) 143 75 (.iload_n 2) (76) := ri_of (by decide +kernel) rfl
theorem wi_143_76 : ri (rt_P sc fm) 143 76 (.iconst 0) (77) := ri_of (by decide +kernel) rfl
theorem wi_143_77 : ri (rt_P sc fm) 143 77 (.bastore) (78) := ri_of (by decide +kernel) rfl
theorem wi_143_78 : ri (rt_P sc fm) 143 78 (.iload_n 1) (79) := ri_of (by decide +kernel) rfl
theorem wi_143_79 : ri (rt_P sc fm) 143 79 (.ifCond .ge 6) (82) := ri_of (by decide +kernel) rfl
theorem wi_143_82 : ri (rt_P sc fm) 143 82 (.goto 61) (85) := ri_of (by decide +kernel) rfl
theorem wi_143_85 : ri (rt_P sc fm) 143 85 (.aload_n 0) (86) := ri_of (by decide +kernel) rfl
theorem wi_143_86 : ri (rt_P sc fm) 143 86 (.bipush 100) (88) := ri_of (by decide +kernel) rfl
theorem wi_143_88 : ri (rt_P sc fm) 143 88 (.iload_n 2) (89) := ri_of (by decide +kernel) rfl
theorem wi_143_89 : ri (rt_P sc fm) 143 89 (.imul) (90) := ri_of (by decide +kernel) rfl
theorem wi_143_9 : ri (rt_P sc fm) 143 9 (.ifCond .ne 5) (12) := ri_of (by decide +kernel) rfl
theorem wi_143_90 : ri (rt_P sc fm) 143 90 (.iload_n 1) (91) := ri_of (by decide +kernel) rfl
theorem wi_143_91 : ri (rt_P sc fm) 143 91 (.invokevirtual 712) (94) := ri_of (by decide +kernel) rfl
theorem wi_143_94 : ri (rt_P sc fm) 143 94 (.aload_n 0) (95) := ri_of (by decide +kernel) rfl
theorem wi_143_95 : ri (rt_P sc fm) 143 95 (.getfield 350) (98) := ri_of (by decide +kernel) rfl
theorem wi_143_98 : ri (rt_P sc fm) 143 98 (.iload_n 2) (99) := ri_of (by decide +kernel) rfl
theorem wi_143_99 : ri (rt_P sc fm) 143 99 (.aload_n 0) (100) := ri_of (by decide +kernel) rfl
set_option maxRecDepth 100000 in
theorem wk_143_981 : rx_kt (rt_P sc fm) 143 981 = some (.long (1885434484)) := (by decide +kernel : rt_kt 143 981 = some (.long (1885434484)))
set_option maxRecDepth 100000 in
theorem wk_143_983 : rx_kt (rt_P sc fm) 143 983 = some (.long (465490306412)) := (by decide +kernel : rt_kt 143 983 = some (.long (465490306412)))
set_option maxRecDepth 100000 in
theorem wp_143_356 : rx_pt (rt_P sc fm) 143 356 = some (15, 0, .int) := (by decide +kernel : rt_pt 143 356 = some (15, 0, .int))
set_option maxRecDepth 100000 in
theorem wp_143_900 : rx_pt (rt_P sc fm) 143 900 = some (15, 130, .boolean) := (by decide +kernel : rt_pt 143 900 = some (15, 130, .boolean))
set_option maxRecDepth 100000 in
theorem wp_143_969 : rx_pt (rt_P sc fm) 143 969 = some (15, 131, .int) := (by decide +kernel : rt_pt 143 969 = some (15, 131, .int))
set_option maxRecDepth 100000 in
theorem wp_143_972 : rx_pt (rt_P sc fm) 143 972 = some (15, 132, .int) := (by decide +kernel : rt_pt 143 972 = some (15, 132, .int))
set_option maxRecDepth 100000 in
theorem wp_143_975 : rx_pt (rt_P sc fm) 143 975 = some (15, 133, .int) := (by decide +kernel : rt_pt 143 975 = some (15, 133, .int))
set_option maxRecDepth 100000 in
theorem wp_143_978 : rx_pt (rt_P sc fm) 143 978 = some (15, 134, .int) := (by decide +kernel : rt_pt 143 978 = some (15, 134, .int))
set_option maxRecDepth 100000 in
theorem wr_143 : rx_rt (rt_P sc fm) 143 = (some FieldType.int) := (by decide +kernel : rt_rt 143 = (some FieldType.int))
/-- MarkHouseModel.wire()I -/
def d_143 (n : Nat)  (c : cS) : Option (Int32 × cS) :=
  lt (pI c 174 0 0) (fun c1 =>
  if (c1.1 174 14) = 0 then
    some ((-1), c1)
  else
    lt (pI c1 174 130 1) (fun c3 =>
    lt (pI c3 174 131 0) (fun c5 =>
    lt (pI c5 174 132 (-1)) (fun c7 =>
    lt (pI c7 174 133 (-1)) (fun c9 =>
    lt (pI c9 174 134 0) (fun c11 =>
    Option.bind (d_373 n 1885434484 c11) (fun v13 =>
    Option.bind (whl (R := (cS)) (fun s16 : Int32 × cS =>
      if (s16.2.1 174 37) ≤ s16.1 then
        some (.inr s16.2)
      else
        if ib s16.1 12 then
        lt (pI s16.2 262 (ix s16.1) (vp_nar .boolean 0)) (fun c18 =>
        if ib s16.1 12 then
        lt (pI c18 263 (ix s16.1) (vp_nar .boolean 0)) (fun c21 =>
        if ib s16.1 12 then
        lt (pI c21 264 (ix s16.1) (vp_nar .boolean 0)) (fun c24 =>
        jn (fun p26 : cS =>
          lt (s16.1 + 1 : Int32) (fun v28 =>
          some (.inl (v28, p26))))
        (fun j143 =>
        if 0 ≤ v13 then
          Option.bind (d_428 n (100 * s16.1) v13 c24) (fun r30 =>
          jn (fun p31 : Int32 =>
            if ib s16.1 12 then
            lt (pI r30 264 (ix s16.1) (vp_nar .boolean p31)) (fun c33 =>
            jn (fun p35 : Int64 × cS =>
              if ib s16.1 12 then
              lt (pL p35.2 265 (ix s16.1) p35.1) (fun c37 =>
              j143 c37)
              else none)
            (fun j142 =>
            if (c33.1 174 74) ≤ 0 then
              j142 (0, c33)
            else
              if ib 0 20 then
              Option.bind (d_474 n (c33.1 233 (ix 0)) v13 465490306412 c33) (fun r40 =>
              j142 (r40.1, r40.2))
              else none))
            else none)
          (fun j111 =>
          if (r30.1 174 74) ≤ 0 then
            j111 0
          else
            j111 1))
        else
          j143 c24))
        else none)
        else none)
        else none) n (0, c11))
    (fun x41 : cS =>
      Option.bind (whl (R := (cS)) (fun s43 : Int32 × cS =>
        if (s43.2.1 174 37) ≤ s43.1 then
          some (.inr s43.2)
        else
          if (s43.2.1 174 131) = 0 then
            if ib s43.1 12 then
            jn (fun p45 : cS =>
              lt (s43.1 + 1 : Int32) (fun v47 =>
              some (.inl (v47, p45))))
            (fun j189 =>
            if (s43.2.1 264 (ix s43.1)) = 0 then
              j189 s43.2
            else
              if ib s43.1 12 then
              if (s43.2.1 262 (ix s43.1)) = 0 then
                Option.bind (d_478 (d_479 160 n) n s43.1 s43.2) (fun r50 =>
                j189 r50)
              else
                j189 s43.2
              else none)
            else none
          else
            some (.inr s43.2)) n (0, x41))
      (fun x51 : cS =>
        some ((x51.1 174 131), x51))))))))))
set_option maxRecDepth 100000 in
set_option maxHeartbeats 4000000 in
theorem sp_143 {F Lo n : Nat}  {c y : cS} {w : cW} {K : Int32 × cS → Prop} {Q : ((Option Value) ⊕ String) → List va_E → Prop} (hw : rOK fm w) (hF : 486 ≤ F) (hLo : 12631 ≤ Lo)  (h : wp (d_143 n  c) K) (hQ : ∀ r, K r → Q (.inl (some (.int r.1))) (hq false r.2 y w)) : rs (rt_P sc fm) 143 F Lo 0 [(0, .ref 174)] [] (hq false c y w) Q := by
  unfold d_143 at h
  obtain ⟨lv, elv⟩ : ∃ lv : rx_L, lv = [(0, .ref 174)] := ⟨_, rfl⟩
  rw [← elv]
  have l0 : rx_ld lv 0 = some (.ref 174) := by rw [elv]; rfl
  refine rs_aldn wi_143_0 l0 ?_
  refine rs_pure wi_143_1 rfl ?_
  refine rs_topi (v := 0) (by decide) ?_
  obtain ⟨c1, e2, h⟩ := wp_lt h
  refine dq_pi wi_143_2 wp_143_356 tf_174_0 rfl rfl e2 ?_
  refine rs_aldn wi_143_5 l0 ?_
  refine dq_gi wi_143_6 wf_143_634 tf_174_14 ?_
  refine rs_ifne (tg := 14) wi_143_9 ⟨by decide, by decide⟩ (fun q => ?_) (fun q => ?_)
  ·
    have h := wp_neg h q
    refine rs_aldn wi_143_14 l0 ?_
    refine rs_pure wi_143_15 rfl ?_
    refine rs_topi (v := 1) (by decide) ?_
    obtain ⟨c3, e4, h⟩ := wp_lt h
    refine dq_pi wi_143_16 wp_143_900 tf_174_130 (nb_n (by decide)) (nb_f (by decide)) e4 ?_
    refine rs_aldn wi_143_19 l0 ?_
    refine rs_pure wi_143_20 rfl ?_
    refine rs_topi (v := 0) (by decide) ?_
    obtain ⟨c5, e6, h⟩ := wp_lt h
    refine dq_pi wi_143_21 wp_143_969 tf_174_131 rfl rfl e6 ?_
    refine rs_aldn wi_143_24 l0 ?_
    refine rs_pure wi_143_25 rfl ?_
    refine rs_topi (v := (-1)) (by decide) ?_
    obtain ⟨c7, e8, h⟩ := wp_lt h
    refine dq_pi wi_143_26 wp_143_972 tf_174_132 rfl rfl e8 ?_
    refine rs_aldn wi_143_29 l0 ?_
    refine rs_pure wi_143_30 rfl ?_
    refine rs_topi (v := (-1)) (by decide) ?_
    obtain ⟨c9, e10, h⟩ := wp_lt h
    refine dq_pi wi_143_31 wp_143_975 tf_174_133 rfl rfl e10 ?_
    refine rs_aldn wi_143_34 l0 ?_
    refine rs_pure wi_143_35 rfl ?_
    refine rs_topi (v := 0) (by decide) ?_
    obtain ⟨c11, e12, h⟩ := wp_lt h
    refine dq_pi wi_143_36 wp_143_978 tf_174_134 rfl rfl e12 ?_
    refine rs_aldn wi_143_39 l0 ?_
    refine rs_ldcl wi_143_40 wk_143_981 ?_
    refine rs_V wi_143_43 wc_143_462 rfl (dq_isa tf_174_0 wa_15_373) (Nat.le_trans (by decide) hF) (ml_le wm_373 (Nat.le_trans (by decide) hLo)) rfl (sp_373 hw (Nat.le_trans (by decide : 0 ≤ 486 - 1) (Nat.sub_le_sub_right hF 1)) (ml_sub wm_373 (Nat.le_trans (by decide : 0 ≤ 12631 - 23) (Nat.sub_le_sub_right hLo 23))) (wp_bind h) (fun v13 h => rs_back1 ?_))
    refine dl_istn wi_143_46 rfl (fun lv l1 t14 => ?_)
    have l0 := t14 _ _ (by decide) (Or.inl rfl) l0
    refine rs_pure wi_143_47 rfl ?_
    refine rs_topi (v := 0) (by decide) ?_
    refine dl_istn wi_143_48 rfl (fun lv l2 t15 => ?_)
    have l0 := t15 _ _ (by decide) (Or.inl rfl) l0
    have l1 := t15 _ _ (by decide) (Or.inl rfl) l1
    refine whl_ex (A := fun s16 : Int32 × cS => ∀ lv, rx_ld lv 0 = some (.ref 174) → rx_ld lv 1 = some (.int v13) → rx_ld lv 2 = some (.int s16.1) → rs (rt_P sc fm) 143 F Lo 49 lv [] (hq false s16.2 y w) Q) (B := (fun x41 : cS => ∀ lv, rx_ld lv 0 = some (.ref 174) → rs (rt_P sc fm) 143 F Lo 149 lv [] (hq false x41 y w) Q)) ?_ ?_ _ _ (wp_bind h) _ l0 l1 l2
    · intro s16 h lv l0 l1 l2
      refine rs_ildn wi_143_49 l2 ?_
      refine rs_aldn wi_143_50 l0 ?_
      refine dq_gi wi_143_51 wf_143_456 tf_174_37 ?_
      refine rs_icge (tg := 149) wi_143_54 ⟨by decide, by decide⟩ (fun q => ?_) (fun q => ?_)
      ·
        have h := wp_pos h q
        exact h _ l0
      ·
        have h := wp_neg h q
        refine rs_aldn wi_143_57 l0 ?_
        refine dq_gr wi_143_58 wf_143_344 tf_174_136 ?_
        refine rs_ildn wi_143_61 l2 ?_
        refine rs_pure wi_143_62 rfl ?_
        refine rs_topi (v := 0) (by decide) ?_
        obtain ⟨g17, h⟩ := wp_gd h
        obtain ⟨c18, e19, h⟩ := wp_lt h
        refine dq_zast wi_143_63 t_262 g17 e19 ?_
        refine rs_aldn wi_143_64 l0 ?_
        refine dq_gr wi_143_65 wf_143_347 tf_174_137 ?_
        refine rs_ildn wi_143_68 l2 ?_
        refine rs_pure wi_143_69 rfl ?_
        refine rs_topi (v := 0) (by decide) ?_
        obtain ⟨g20, h⟩ := wp_gd h
        obtain ⟨c21, e22, h⟩ := wp_lt h
        refine dq_zast wi_143_70 t_263 g20 e22 ?_
        refine rs_aldn wi_143_71 l0 ?_
        refine dq_gr wi_143_72 wf_143_350 tf_174_138 ?_
        refine rs_ildn wi_143_75 l2 ?_
        refine rs_pure wi_143_76 rfl ?_
        refine rs_topi (v := 0) (by decide) ?_
        obtain ⟨g23, h⟩ := wp_gd h
        obtain ⟨c24, e25, h⟩ := wp_lt h
        refine dq_zast wi_143_77 t_264 g23 e25 ?_
        refine rs_ildn wi_143_78 l1 ?_
        refine wp_jn (B := fun p26 : cS => ∀ lv, rx_ld lv 0 = some (.ref 174) → rx_ld lv 1 = some (.int v13) → rx_ld lv 2 = some (.int s16.1) → rs (rt_P sc fm) 143 F Lo 143 lv [] (hq false p26 y w) Q) h (fun p26 h lv l0 l1 l2 => ?_) (fun j143 hj143 h => ?_)
        ·
          obtain ⟨v28, e29, h⟩ := wp_lt h
          refine dl_inc wi_143_143 l2 rfl e29 (fun lv l2 t27 => ?_)
          have l0 := t27 _ _ (by decide) (Or.inl rfl) l0
          have l1 := t27 _ _ (by decide) (Or.inl rfl) l1
          refine rs_goto (tg := 49) wi_143_146 ⟨by decide, by decide⟩ ?_
          exact h _ l0 l1 l2
        refine rs_ifge (tg := 85) wi_143_79 ⟨by decide, by decide⟩ (fun q => ?_) (fun q => ?_)
        ·
          have h := wp_pos h q
          refine rs_aldn wi_143_85 l0 ?_
          refine rs_pure wi_143_86 rfl ?_
          refine rs_topi (v := 100) (by decide) ?_
          refine rs_ildn wi_143_88 l2 ?_
          refine rs_pure wi_143_89 rfl ?_
          refine rs_ildn wi_143_90 l1 ?_
          refine rs_V wi_143_91 wc_143_712 rfl (dq_isa tf_174_0 wa_15_428) (Nat.le_trans (by decide) hF) (ml_le wm_428 (Nat.le_trans (by decide) hLo)) rfl (sp_428 hw (Nat.le_trans (by decide : 3 ≤ 486 - 1) (Nat.sub_le_sub_right hF 1)) (ml_sub wm_428 (Nat.le_trans (by decide : 77 ≤ 12631 - 28) (Nat.sub_le_sub_right hLo 28))) (wp_bind h) (fun r30 h => rs_back0 ?_))
          refine rs_aldn wi_143_94 l0 ?_
          refine dq_gr wi_143_95 wf_143_350 tf_174_138 ?_
          refine rs_ildn wi_143_98 l2 ?_
          refine rs_aldn wi_143_99 l0 ?_
          refine dq_gi wi_143_100 wf_143_678 tf_174_74 ?_
          refine wp_jn (B := fun p31 : Int32 => ∀ lv, rx_ld lv 0 = some (.ref 174) → rx_ld lv 1 = some (.int v13) → rx_ld lv 2 = some (.int s16.1) → rs (rt_P sc fm) 143 F Lo 111 lv [.int p31, .int s16.1, .ref 264] (hq false r30 y w) Q) h (fun p31 h lv l0 l1 l2 => ?_) (fun j111 hj111 h => ?_)
          ·
            obtain ⟨g32, h⟩ := wp_gd h
            obtain ⟨c33, e34, h⟩ := wp_lt h
            refine dq_zast wi_143_111 t_264 g32 e34 ?_
            refine rs_aldn wi_143_112 l0 ?_
            refine dq_gr wi_143_113 wf_143_353 tf_174_139 ?_
            refine rs_ildn wi_143_116 l2 ?_
            refine rs_aldn wi_143_117 l0 ?_
            refine dq_gi wi_143_118 wf_143_678 tf_174_74 ?_
            refine wp_jn (B := fun p35 : Int64 × cS => ∀ lv, rx_ld lv 0 = some (.ref 174) → rx_ld lv 1 = some (.int v13) → rx_ld lv 2 = some (.int s16.1) → rs (rt_P sc fm) 143 F Lo 142 lv [.long p35.1, .int s16.1, .ref 265] (hq false p35.2 y w) Q) h (fun p35 h lv l0 l1 l2 => ?_) (fun j142 hj142 h => ?_)
            ·
              obtain ⟨g36, h⟩ := wp_gd h
              obtain ⟨c37, e38, h⟩ := wp_lt h
              refine dq_last wi_143_142 t_265 g36 e38 ?_
              exact hj143 _ h _ l0 l1 l2
            refine rs_ifle (tg := 141) wi_143_121 ⟨by decide, by decide⟩ (fun q => ?_) (fun q => ?_)
            ·
              have h := wp_pos h q
              refine rs_pure wi_143_141 rfl ?_
              refine rs_topl (v := 0) (by decide) ?_
              exact hj142 _ h _ l0 l1 l2
            ·
              have h := wp_neg h q
              refine rs_aldn wi_143_124 l0 ?_
              refine rs_aldn wi_143_125 l0 ?_
              refine dq_gr wi_143_126 wf_143_252 tf_174_75 ?_
              refine rs_pure wi_143_129 rfl ?_
              refine rs_topi (v := 0) (by decide) ?_
              obtain ⟨g39, h⟩ := wp_gd h
              refine dq_iald wi_143_130 t_233 g39 ?_
              refine rs_ildn wi_143_131 l1 ?_
              refine rs_ldcl wi_143_132 wk_143_983 ?_
              refine rs_V wi_143_135 wc_143_985 rfl (dq_isa tf_174_0 wa_15_474) (Nat.le_trans (by decide) hF) (ml_le wm_474 (Nat.le_trans (by decide) hLo)) rfl (sp_474 hw (Nat.le_trans (by decide : 1 ≤ 486 - 1) (Nat.sub_le_sub_right hF 1)) (ml_sub wm_474 (Nat.le_trans (by decide : 26 ≤ 12631 - 25) (Nat.sub_le_sub_right hLo 25))) (wp_bind h) (fun r40 h => rs_back1 ?_))
              refine rs_goto (tg := 142) wi_143_138 ⟨by decide, by decide⟩ ?_
              exact hj142 _ h _ l0 l1 l2
          refine rs_ifle (tg := 110) wi_143_103 ⟨by decide, by decide⟩ (fun q => ?_) (fun q => ?_)
          ·
            have h := wp_pos h q
            refine rs_pure wi_143_110 rfl ?_
            refine rs_topi (v := 0) (by decide) ?_
            exact hj111 _ h _ l0 l1 l2
          ·
            have h := wp_neg h q
            refine rs_pure wi_143_106 rfl ?_
            refine rs_topi (v := 1) (by decide) ?_
            refine rs_goto (tg := 111) wi_143_107 ⟨by decide, by decide⟩ ?_
            exact hj111 _ h _ l0 l1 l2
        ·
          have h := wp_neg h q
          refine rs_goto (tg := 143) wi_143_82 ⟨by decide, by decide⟩ ?_
          exact hj143 _ h _ l0 l1 l2
    ·
      intro x41 h lv l0
      refine rs_pure wi_143_149 rfl ?_
      refine rs_topi (v := 0) (by decide) ?_
      refine dl_istn wi_143_150 rfl (fun lv l2 t42 => ?_)
      have l0 := t42 _ _ (by decide) (Or.inl rfl) l0
      refine whl_ex (A := fun s43 : Int32 × cS => ∀ lv, rx_ld lv 0 = some (.ref 174) → rx_ld lv 2 = some (.int s43.1) → rs (rt_P sc fm) 143 F Lo 151 lv [] (hq false s43.2 y w) Q) (B := (fun x51 : cS => ∀ lv, rx_ld lv 0 = some (.ref 174) → rs (rt_P sc fm) 143 F Lo 195 lv [] (hq false x51 y w) Q)) ?_ ?_ _ _ (wp_bind h) _ l0 l2
      · intro s43 h lv l0 l2
        refine rs_ildn wi_143_151 l2 ?_
        refine rs_aldn wi_143_152 l0 ?_
        refine dq_gi wi_143_153 wf_143_456 tf_174_37 ?_
        refine rs_icge (tg := 195) wi_143_156 ⟨by decide, by decide⟩ (fun q => ?_) (fun q => ?_)
        ·
          have h := wp_pos h q
          exact h _ l0
        ·
          have h := wp_neg h q
          refine rs_aldn wi_143_159 l0 ?_
          refine dq_gi wi_143_160 wf_143_969 tf_174_131 ?_
          refine rs_ifne (tg := 195) wi_143_163 ⟨by decide, by decide⟩ (fun q => ?_) (fun q => ?_)
          ·
            have h := wp_neg h q
            exact h _ l0
          ·
            have h := wp_pos h q
            refine rs_aldn wi_143_166 l0 ?_
            refine dq_gr wi_143_167 wf_143_350 tf_174_138 ?_
            refine rs_ildn wi_143_170 l2 ?_
            obtain ⟨g44, h⟩ := wp_gd h
            refine dq_zald wi_143_171 t_264 g44 ?_
            refine wp_jn (B := fun p45 : cS => ∀ lv, rx_ld lv 0 = some (.ref 174) → rx_ld lv 2 = some (.int s43.1) → rs (rt_P sc fm) 143 F Lo 189 lv [] (hq false p45 y w) Q) h (fun p45 h lv l0 l2 => ?_) (fun j189 hj189 h => ?_)
            ·
              obtain ⟨v47, e48, h⟩ := wp_lt h
              refine dl_inc wi_143_189 l2 rfl e48 (fun lv l2 t46 => ?_)
              have l0 := t46 _ _ (by decide) (Or.inl rfl) l0
              refine rs_goto (tg := 151) wi_143_192 ⟨by decide, by decide⟩ ?_
              exact h _ l0 l2
            refine rs_ifeq (tg := 189) wi_143_172 ⟨by decide, by decide⟩ (fun q => ?_) (fun q => ?_)
            ·
              have h := wp_pos h q
              exact hj189 _ h _ l0 l2
            ·
              have h := wp_neg h q
              refine rs_aldn wi_143_175 l0 ?_
              refine dq_gr wi_143_176 wf_143_344 tf_174_136 ?_
              refine rs_ildn wi_143_179 l2 ?_
              obtain ⟨g49, h⟩ := wp_gd h
              refine dq_zald wi_143_180 t_262 g49 ?_
              refine rs_ifne (tg := 189) wi_143_181 ⟨by decide, by decide⟩ (fun q => ?_) (fun q => ?_)
              ·
                have h := wp_neg h q
                exact hj189 _ h _ l0 l2
              ·
                have h := wp_pos h q
                refine rs_aldn wi_143_184 l0 ?_
                refine rs_ildn wi_143_185 l2 ?_
                refine rs_V wi_143_186 wc_143_989 rfl (dq_isa tf_174_0 wa_15_478) (Nat.le_trans (by decide) hF) (ml_le wm_478 (Nat.le_trans (by decide) hLo)) rfl (sp_478 (Fr := 4 + 3 * 160) (Lr := 105 + 78 * 160) hw (sp_479 hw 160) (Nat.le_trans (by decide : 0 ≤ 486 - 1) (Nat.sub_le_sub_right hF 1)) (ml_sub wm_478 (Nat.le_trans (by decide : 0 ≤ 12631 - 21) (Nat.sub_le_sub_right hLo 21))) (Nat.le_trans (by decide) (Nat.sub_le_sub_right hF 1)) (ml_sub wm_478 (Nat.le_trans (by decide) (Nat.sub_le_sub_right hLo 21))) (wp_bind h) (fun r50 h => rs_back0 ?_))
                exact hj189 _ h _ l0 l2
      ·
        intro x51 h lv l0
        refine rs_aldn wi_143_195 l0 ?_
        refine dq_gi wi_143_196 wf_143_969 tf_174_131 ?_
        exact rs_iret wi_143_199 wr_143 rfl (hQ ((x51.1 174 131), x51) h)
  ·
    have h := wp_pos h q
    refine rs_pure wi_143_12 rfl ?_
    refine rs_topi (v := (-1)) (by decide) ?_
    exact rs_iret wi_143_13 wr_143 rfl (hQ ((-1), c1) h)
set_option maxRecDepth 100000 in
theorem wf_144_341 : rx_ft (rt_P sc fm) 144 341 = some (15, 135) := (by decide +kernel : rt_ft 144 341 = some (15, 135))
set_option maxRecDepth 100000 in
theorem wf_144_634 : rx_ft (rt_P sc fm) 144 634 = some (15, 14) := (by decide +kernel : rt_ft 144 634 = some (15, 14))
set_option maxRecDepth 100000 in
theorem wf_144_900 : rx_ft (rt_P sc fm) 144 900 = some (15, 130) := (by decide +kernel : rt_ft 144 900 = some (15, 130))
set_option maxRecDepth 100000 in
theorem wf_144_972 : rx_ft (rt_P sc fm) 144 972 = some (15, 132) := (by decide +kernel : rt_ft 144 972 = some (15, 132))
set_option maxRecDepth 100000 in
theorem wf_144_975 : rx_ft (rt_P sc fm) 144 975 = some (15, 133) := (by decide +kernel : rt_ft 144 975 = some (15, 133))
set_option maxRecDepth 100000 in
theorem wf_144_978 : rx_ft (rt_P sc fm) 144 978 = some (15, 134) := (by decide +kernel : rt_ft 144 978 = some (15, 134))
theorem wi_144_0 : ri (rt_P sc fm) 144 0 (.aload_n 0) (1) := ri_of (by decide +kernel) rfl
theorem wi_144_1 : ri (rt_P sc fm) 144 1 (.iconst 0) (2) := ri_of (by decide +kernel) rfl
theorem wi_144_12 : ri (rt_P sc fm) 144 12 (.aload_n 0) (13) := ri_of (by decide +kernel) rfl
theorem wi_144_13 : ri (rt_P sc fm) 144 13 (.getfield 900) (16) := ri_of (by decide +kernel) rfl
theorem wi_144_16 : ri (rt_P sc fm) 144 16 (.ifCond .ne 5) (19) := ri_of (by decide +kernel) rfl
theorem wi_144_19 : ri (rt_P sc fm) 144 19 (.iconst (-1)) (20) := ri_of (by decide +kernel) rfl
theorem wi_144_2 : ri (rt_P sc fm) 144 2 (.putfield 356) (5) := ri_of (by decide +kernel) rfl
theorem wi_144_20 : ri (rt_P sc fm) 144 20 (.ireturn) (21) := ri_of (by decide +kernel) rfl
theorem wi_144_21 : ri (rt_P sc fm) 144 21 (.iload_n 1) (22) := ri_of (by decide +kernel) rfl
theorem wi_144_22 : ri (rt_P sc fm) 144 22 (.ifCond .ne 8) (25) := ri_of (by decide +kernel) rfl
theorem wi_144_25 : ri (rt_P sc fm) 144 25 (.aload_n 0) (26) := ri_of (by decide +kernel) rfl
theorem wi_144_26 : ri (rt_P sc fm) 144 26 (.getfield 972) (29) := ri_of (by decide +kernel) rfl
theorem wi_144_29 : ri (rt_P sc fm) 144 29 (.ireturn) (30) := ri_of (by decide +kernel) rfl
theorem wi_144_30 : ri (rt_P sc fm) 144 30 (.iload_n 1) (31) := ri_of (by decide +kernel) rfl
theorem wi_144_31 : ri (rt_P sc fm) 144 31 (.iconst 1) (32) := ri_of (by decide +kernel) rfl
theorem wi_144_32 : ri (rt_P sc fm) 144 32 (.if_icmp .ne 8) (35) := ri_of (by decide +kernel) rfl
theorem wi_144_35 : ri (rt_P sc fm) 144 35 (.aload_n 0) (36) := ri_of (by decide +kernel) rfl
theorem wi_144_36 : ri (rt_P sc fm) 144 36 (.getfield 975) (39) := ri_of (by decide +kernel) rfl
theorem wi_144_39 : ri (rt_P sc fm) 144 39 (.ireturn) (40) := ri_of (by decide +kernel) rfl
theorem wi_144_40 : ri (rt_P sc fm) 144 40 (.iload_n 1) (41) := ri_of (by decide +kernel) rfl
theorem wi_144_41 : ri (rt_P sc fm) 144 41 (.iconst 2) (42) := ri_of (by decide +kernel) rfl
theorem wi_144_42 : ri (rt_P sc fm) 144 42 (.if_icmp .lt 24) (45) := ri_of (by decide +kernel) rfl
theorem wi_144_45 : ri (rt_P sc fm) 144 45 (.iload_n 1) (46) := ri_of (by decide +kernel) rfl
theorem wi_144_46 : ri (rt_P sc fm) 144 46 (.iconst 2) (47) := ri_of (by decide +kernel) rfl
theorem wi_144_47 : ri (rt_P sc fm) 144 47 (.isub) (48) := ri_of (by decide +kernel) rfl
theorem wi_144_48 : ri (rt_P sc fm) 144 48 (.aload_n 0) (49) := ri_of (by decide +kernel) rfl
theorem wi_144_49 : ri (rt_P sc fm) 144 49 (.getfield 978) (52) := ri_of (by decide +kernel) rfl
theorem wi_144_5 : ri (rt_P sc fm) 144 5 (.aload_n 0) (6) := ri_of (by decide +kernel) rfl
theorem wi_144_52 : ri (rt_P sc fm) 144 52 (.if_icmp .ge 14) (55) := ri_of (by decide +kernel) rfl
theorem wi_144_55 : ri (rt_P sc fm) 144 55 (.aload_n 0) (56) := ri_of (by decide +kernel) rfl
theorem wi_144_56 : ri (rt_P sc fm) 144 56 (.getfield 341) (59) := ri_of (by decide +kernel) rfl
theorem wi_144_59 : ri (rt_P sc fm) 144 59 (.iload_n 1) (60) := ri_of (by decide +kernel) rfl
theorem wi_144_6 : ri (rt_P sc fm) 144 6 (.getfield 634) (9) := ri_of (by decide +kernel) rfl
theorem wi_144_60 : ri (rt_P sc fm) 144 60 (.iconst 2) (61) := ri_of (by decide +kernel) rfl
theorem wi_144_61 : ri (rt_P sc fm) 144 61 (.isub) (62) := ri_of (by decide +kernel) rfl
theorem wi_144_62 : ri (rt_P sc fm) 144 62 (.iaload) (63) := ri_of (by decide +kernel) rfl
theorem wi_144_63 : ri (rt_P sc fm) 144 63 (.goto 4) (66) := ri_of (by decide +kernel) rfl
theorem wi_144_66 : ri (rt_P sc fm) 144 66 (.iconst (-1)) (67) := ri_of (by decide +kernel) rfl
theorem wi_144_67 : ri (rt_P sc fm) 144 67 (.ireturn) (68) := ri_of (by decide +kernel) rfl
theorem wi_144_9 : ri (rt_P sc fm) 144 9 (.ifCond .eq 10) (12) := ri_of (by decide +kernel) rfl
set_option maxRecDepth 100000 in
theorem wp_144_356 : rx_pt (rt_P sc fm) 144 356 = some (15, 0, .int) := (by decide +kernel : rt_pt 144 356 = some (15, 0, .int))
set_option maxRecDepth 100000 in
theorem wr_144 : rx_rt (rt_P sc fm) 144 = (some FieldType.int) := (by decide +kernel : rt_rt 144 = (some FieldType.int))
/-- MarkHouseModel.wired(I)I -/
def d_144 (n : Nat) (a1 : Int32) (c : cS) : Option (Int32 × cS) :=
  lt (pI c 174 0 0) (fun c1 =>
  jn (fun p3 : Unit =>
    some ((-1), c1))
  (fun j19 =>
  if (c1.1 174 14) = 0 then
    j19 ()
  else
    if (c1.1 174 130) = 0 then
      j19 ()
    else
      if a1 = 0 then
        some ((c1.1 174 132), c1)
      else
        if a1 = 1 then
          some ((c1.1 174 133), c1)
        else
          jn (fun p4 : Int32 =>
            some (p4, c1))
          (fun j67 =>
          jn (fun p5 : Unit =>
            j67 (-1))
          (fun j66 =>
          if a1 < 2 then
            j66 ()
          else
            if (c1.1 174 134) ≤ (a1 - 2) then
              j66 ()
            else
              if ib (a1 - 2) 12 then
              j67 (c1.1 261 (ix (a1 - 2)))
              else none))))
set_option maxRecDepth 100000 in
set_option maxHeartbeats 4000000 in
theorem sp_144 {F Lo n : Nat} {a1 : Int32} {c y : cS} {w : cW} {K : Int32 × cS → Prop} {Q : ((Option Value) ⊕ String) → List va_E → Prop} (hw : rOK fm w) (hF : 0 ≤ F) (hLo : 0 ≤ Lo)  (h : wp (d_144 n a1 c) K) (hQ : ∀ r, K r → Q (.inl (some (.int r.1))) (hq false r.2 y w)) : rs (rt_P sc fm) 144 F Lo 0 [(0, .ref 174), (1, .int a1)] [] (hq false c y w) Q := by
  unfold d_144 at h
  obtain ⟨lv, elv⟩ : ∃ lv : rx_L, lv = [(0, .ref 174), (1, .int a1)] := ⟨_, rfl⟩
  rw [← elv]
  have l0 : rx_ld lv 0 = some (.ref 174) := by rw [elv]; rfl
  have l1 : rx_ld lv 1 = some (.int a1) := by rw [elv]; rfl
  refine rs_aldn wi_144_0 l0 ?_
  refine rs_pure wi_144_1 rfl ?_
  refine rs_topi (v := 0) (by decide) ?_
  obtain ⟨c1, e2, h⟩ := wp_lt h
  refine dq_pi wi_144_2 wp_144_356 tf_174_0 rfl rfl e2 ?_
  refine rs_aldn wi_144_5 l0 ?_
  refine dq_gi wi_144_6 wf_144_634 tf_174_14 ?_
  refine wp_jn (B := fun p3 : Unit => ∀ lv, rs (rt_P sc fm) 144 F Lo 19 lv [] (hq false c1 y w) Q) h (fun p3 h lv => ?_) (fun j19 hj19 h => ?_)
  ·
    refine rs_pure wi_144_19 rfl ?_
    refine rs_topi (v := (-1)) (by decide) ?_
    exact rs_iret wi_144_20 wr_144 rfl (hQ ((-1), c1) h)
  refine rs_ifeq (tg := 19) wi_144_9 ⟨by decide, by decide⟩ (fun q => ?_) (fun q => ?_)
  ·
    have h := wp_pos h q
    exact hj19 _ h _
  ·
    have h := wp_neg h q
    refine rs_aldn wi_144_12 l0 ?_
    refine dq_gi wi_144_13 wf_144_900 tf_174_130 ?_
    refine rs_ifne (tg := 21) wi_144_16 ⟨by decide, by decide⟩ (fun q => ?_) (fun q => ?_)
    ·
      have h := wp_neg h q
      refine rs_ildn wi_144_21 l1 ?_
      refine rs_ifne (tg := 30) wi_144_22 ⟨by decide, by decide⟩ (fun q => ?_) (fun q => ?_)
      ·
        have h := wp_neg h q
        refine rs_ildn wi_144_30 l1 ?_
        refine rs_pure wi_144_31 rfl ?_
        refine rs_topi (v := 1) (by decide) ?_
        refine rs_icne (tg := 40) wi_144_32 ⟨by decide, by decide⟩ (fun q => ?_) (fun q => ?_)
        ·
          have h := wp_neg h q
          refine rs_ildn wi_144_40 l1 ?_
          refine rs_pure wi_144_41 rfl ?_
          refine rs_topi (v := 2) (by decide) ?_
          refine wp_jn (B := fun p4 : Int32 => ∀ lv, rs (rt_P sc fm) 144 F Lo 67 lv [.int p4] (hq false c1 y w) Q) h (fun p4 h lv => ?_) (fun j67 hj67 h => ?_)
          ·
            exact rs_iret wi_144_67 wr_144 rfl (hQ (p4, c1) h)
          refine wp_jn (B := fun p5 : Unit => ∀ lv, rs (rt_P sc fm) 144 F Lo 66 lv [] (hq false c1 y w) Q) h (fun p5 h lv => ?_) (fun j66 hj66 h => ?_)
          ·
            refine rs_pure wi_144_66 rfl ?_
            refine rs_topi (v := (-1)) (by decide) ?_
            exact hj67 _ h _
          refine rs_iclt (tg := 66) wi_144_42 ⟨by decide, by decide⟩ (fun q => ?_) (fun q => ?_)
          ·
            have h := wp_pos h q
            exact hj66 _ h _
          ·
            have h := wp_neg h q
            refine rs_ildn wi_144_45 l1 ?_
            refine rs_pure wi_144_46 rfl ?_
            refine rs_topi (v := 2) (by decide) ?_
            refine rs_pure wi_144_47 rfl ?_
            refine rs_aldn wi_144_48 l0 ?_
            refine dq_gi wi_144_49 wf_144_978 tf_174_134 ?_
            refine rs_icge (tg := 66) wi_144_52 ⟨by decide, by decide⟩ (fun q => ?_) (fun q => ?_)
            ·
              have h := wp_pos h q
              exact hj66 _ h _
            ·
              have h := wp_neg h q
              refine rs_aldn wi_144_55 l0 ?_
              refine dq_gr wi_144_56 wf_144_341 tf_174_135 ?_
              refine rs_ildn wi_144_59 l1 ?_
              refine rs_pure wi_144_60 rfl ?_
              refine rs_topi (v := 2) (by decide) ?_
              refine rs_pure wi_144_61 rfl ?_
              obtain ⟨g6, h⟩ := wp_gd h
              refine dq_iald wi_144_62 t_261 g6 ?_
              refine rs_goto (tg := 67) wi_144_63 ⟨by decide, by decide⟩ ?_
              exact hj67 _ h _
        ·
          have h := wp_pos h q
          refine rs_aldn wi_144_35 l0 ?_
          refine dq_gi wi_144_36 wf_144_975 tf_174_133 ?_
          exact rs_iret wi_144_39 wr_144 rfl (hQ ((c1.1 174 133), c1) h)
      ·
        have h := wp_pos h q
        refine rs_aldn wi_144_25 l0 ?_
        refine dq_gi wi_144_26 wf_144_972 tf_174_132 ?_
        exact rs_iret wi_144_29 wr_144 rfl (hQ ((c1.1 174 132), c1) h)
    ·
      have h := wp_pos h q
      exact hj19 _ h _
end D61
