/-! THE CODE AS PURE PROGRAMS, 18: by wip/whole/dc.py -/
section D59
variable {sc : Nat × (Nat → Int32)} {fm : Value}
theorem t_246 : ta false 246 0 400 := ⟨rfl, by decide, by decide⟩
theorem t_247 : ta false 247 0 400 := ⟨rfl, by decide, by decide⟩
theorem t_248 : ta false 248 0 6400 := ⟨rfl, by decide, by decide⟩
theorem tf_174_100 : fo false 174 15 100 (.ref 248) := ⟨_, rfl, rfl, by decide, by decide⟩
theorem tf_174_101 : fo false 174 15 101 (.int 0) := ⟨_, rfl, rfl, by decide, by decide⟩
theorem tf_174_104 : fo false 174 15 104 (.int 0) := ⟨_, rfl, rfl, by decide, by decide⟩
theorem tf_174_105 : fo false 174 15 105 (.int 0) := ⟨_, rfl, rfl, by decide, by decide⟩
theorem tf_174_98 : fo false 174 15 98 (.ref 246) := ⟨_, rfl, rfl, by decide, by decide⟩
theorem tf_174_99 : fo false 174 15 99 (.ref 247) := ⟨_, rfl, rfl, by decide, by decide⟩
set_option maxRecDepth 100000 in
theorem wc_461_535 : rx_ct (rt_P sc fm) 461 535 = some (0, 387, 3) := (by decide +kernel : rt_ct 461 535 = some (0, 387, 3))
set_option maxRecDepth 100000 in
theorem wc_461_865 : rx_ct (rt_P sc fm) 461 865 = some (0, 459, 2) := (by decide +kernel : rt_ct 461 865 = some (0, 459, 2))
set_option maxRecDepth 100000 in
theorem wf_461_243 : rx_ft (rt_P sc fm) 461 243 = some (15, 70) := (by decide +kernel : rt_ft 461 243 = some (15, 70))
set_option maxRecDepth 100000 in
theorem wf_461_274 : rx_ft (rt_P sc fm) 461 274 = some (15, 89) := (by decide +kernel : rt_ft 461 274 = some (15, 89))
set_option maxRecDepth 100000 in
theorem wf_461_280 : rx_ft (rt_P sc fm) 461 280 = some (15, 93) := (by decide +kernel : rt_ft 461 280 = some (15, 93))
set_option maxRecDepth 100000 in
theorem wf_461_283 : rx_ft (rt_P sc fm) 461 283 = some (15, 94) := (by decide +kernel : rt_ft 461 283 = some (15, 94))
set_option maxRecDepth 100000 in
theorem wf_461_289 : rx_ft (rt_P sc fm) 461 289 = some (15, 96) := (by decide +kernel : rt_ft 461 289 = some (15, 96))
set_option maxRecDepth 100000 in
theorem wf_461_292 : rx_ft (rt_P sc fm) 461 292 = some (15, 97) := (by decide +kernel : rt_ft 461 292 = some (15, 97))
set_option maxRecDepth 100000 in
theorem wf_461_296 : rx_ft (rt_P sc fm) 461 296 = some (15, 98) := (by decide +kernel : rt_ft 461 296 = some (15, 98))
set_option maxRecDepth 100000 in
theorem wf_461_299 : rx_ft (rt_P sc fm) 461 299 = some (15, 99) := (by decide +kernel : rt_ft 461 299 = some (15, 99))
set_option maxRecDepth 100000 in
theorem wf_461_302 : rx_ft (rt_P sc fm) 461 302 = some (15, 100) := (by decide +kernel : rt_ft 461 302 = some (15, 100))
set_option maxRecDepth 100000 in
theorem wf_461_877 : rx_ft (rt_P sc fm) 461 877 = some (15, 101) := (by decide +kernel : rt_ft 461 877 = some (15, 101))
theorem wi_461_0 : ri (rt_P sc fm) 461 0 (.bipush 40) (2) := ri_of (by decide +kernel) rfl
theorem wi_461_10 : ri (rt_P sc fm) 461 10 (.aload_n 0) (11) := ri_of (by decide +kernel) rfl
theorem wi_461_101 : ri (rt_P sc fm) 461 101 (.iload 8) (103) := ri_of (by decide +kernel) rfl
theorem wi_461_103 : ri (rt_P sc fm) 461 103 (.ifCond .eq 4) (106) := ri_of (by decide +kernel) rfl
theorem wi_461_106 : ri (rt_P sc fm) 461 106 (.return_) (107) := ri_of (by decide +kernel) rfl
theorem wi_461_107 : ri (rt_P sc fm) 461 107 (.iinc 7 1) (110) := ri_of (by decide +kernel) rfl
theorem wi_461_11 : ri (rt_P sc fm) 461 11 (.getfield 243) (14) := ri_of (by decide +kernel) rfl
theorem wi_461_110 : ri (rt_P sc fm) 461 110 (.goto (-87)) (113) := ri_of (by decide +kernel) rfl
theorem wi_461_113 : ri (rt_P sc fm) 461 113 (.aload_n 0) (114) := ri_of (by decide +kernel) rfl
theorem wi_461_114 : ri (rt_P sc fm) 461 114 (.getfield 877) (117) := ri_of (by decide +kernel) rfl
theorem wi_461_117 : ri (rt_P sc fm) 461 117 (.sipush 400) (120) := ri_of (by decide +kernel) rfl
theorem wi_461_120 : ri (rt_P sc fm) 461 120 (.if_icmp .ne 9) (123) := ri_of (by decide +kernel) rfl
theorem wi_461_123 : ri (rt_P sc fm) 461 123 (.aload_n 0) (124) := ri_of (by decide +kernel) rfl
theorem wi_461_124 : ri (rt_P sc fm) 461 124 (.iconst 1) (125) := ri_of (by decide +kernel) rfl
theorem wi_461_125 : ri (rt_P sc fm) 461 125 (.putfield 880) (128) := ri_of (by decide +kernel) rfl
theorem wi_461_128 : ri (rt_P sc fm) 461 128 (.return_) (129) := ri_of (by decide +kernel) rfl
theorem wi_461_129 : ri (rt_P sc fm) 461 129 (.aload_n 0) (130) := ri_of (by decide +kernel) rfl
theorem wi_461_130 : ri (rt_P sc fm) 461 130 (.getfield 296) (133) := ri_of (by decide +kernel) rfl
theorem wi_461_133 : ri (rt_P sc fm) 461 133 (.aload_n 0) (134) := ri_of (by decide +kernel) rfl
theorem wi_461_134 : ri (rt_P sc fm) 461 134 (.getfield 877) (137) := ri_of (by decide +kernel) rfl
theorem wi_461_137 : ri (rt_P sc fm) 461 137 (.iload_n 2) (138) := ri_of (by decide +kernel) rfl
theorem wi_461_138 : ri (rt_P sc fm) 461 138 (.iastore) (139) := ri_of (by decide +kernel) rfl
theorem wi_461_139 : ri (rt_P sc fm) 461 139 (.aload_n 0) (140) := ri_of (by decide +kernel) rfl
theorem wi_461_14 : ri (rt_P sc fm) 461 14 (.iload 5) (16) := ri_of (by decide +kernel) rfl
theorem wi_461_140 : ri (rt_P sc fm) 461 140 (.getfield 299) (143) := ri_of (by decide +kernel) rfl
theorem wi_461_143 : ri (rt_P sc fm) 461 143 (.aload_n 0) (144) := ri_of (by decide +kernel) rfl
theorem wi_461_144 : ri (rt_P sc fm) 461 144 (.getfield 877) (147) := ri_of (by decide +kernel) rfl
theorem wi_461_147 : ri (rt_P sc fm) 461 147 (.iload_n 3) (148) := ri_of (by decide +kernel) rfl
theorem wi_461_148 : ri (rt_P sc fm) 461 148 (.iastore) (149) := ri_of (by decide +kernel) rfl
theorem wi_461_149 : ri (rt_P sc fm) 461 149 (.iconst 0) (150) := ri_of (by decide +kernel) rfl
theorem wi_461_150 : ri (rt_P sc fm) 461 150 (.istore 7) (152) := ri_of (by decide +kernel) rfl
theorem wi_461_152 : ri (rt_P sc fm) 461 152 (.iload 7) (154) := ri_of (by decide +kernel) rfl
theorem wi_461_154 : ri (rt_P sc fm) 461 154 (.bipush 16) (156) := ri_of (by decide +kernel) rfl
theorem wi_461_156 : ri (rt_P sc fm) 461 156 (.if_icmp .ge 31) (159) := ri_of (by decide +kernel) rfl
theorem wi_461_159 : ri (rt_P sc fm) 461 159 (.aload_n 0) (160) := ri_of (by decide +kernel) rfl
theorem wi_461_16 : ri (rt_P sc fm) 461 16 (.iaload) (17) := ri_of (by decide +kernel) rfl
theorem wi_461_160 : ri (rt_P sc fm) 461 160 (.getfield 302) (163) := ri_of (by decide +kernel) rfl
theorem wi_461_163 : ri (rt_P sc fm) 461 163 (.bipush 16) (165) := ri_of (by decide +kernel) rfl
theorem wi_461_165 : ri (rt_P sc fm) 461 165 (.aload_n 0) (166) := ri_of (by decide +kernel) rfl
theorem wi_461_166 : ri (rt_P sc fm) 461 166 (.getfield 877) (169) := ri_of (by decide +kernel) rfl
theorem wi_461_169 : ri (rt_P sc fm) 461 169 (.imul) (170) := ri_of (by decide +kernel) rfl
theorem wi_461_17 : ri (rt_P sc fm) 461 17 (.iadd) (18) := ri_of (by decide +kernel) rfl
theorem wi_461_170 : ri (rt_P sc fm) 461 170 (.iload 7) (172) := ri_of (by decide +kernel) rfl
theorem wi_461_172 : ri (rt_P sc fm) 461 172 (.iadd) (173) := ri_of (by decide +kernel) rfl
theorem wi_461_173 : ri (rt_P sc fm) 461 173 (.aload_n 0) (174) := ri_of (by decide +kernel) rfl
theorem wi_461_174 : ri (rt_P sc fm) 461 174 (.getfield 274) (177) := ri_of (by decide +kernel) rfl
theorem wi_461_177 : ri (rt_P sc fm) 461 177 (.iload 7) (179) := ri_of (by decide +kernel) rfl
theorem wi_461_179 : ri (rt_P sc fm) 461 179 (.iaload) (180) := ri_of (by decide +kernel) rfl
theorem wi_461_18 : ri (rt_P sc fm) 461 18 (.istore 6) (20) := ri_of (by decide +kernel) rfl
theorem wi_461_180 : ri (rt_P sc fm) 461 180 (.iastore) (181) := ri_of (by decide +kernel) rfl
theorem wi_461_181 : ri (rt_P sc fm) 461 181 (.iinc 7 1) (184) := ri_of (by decide +kernel) rfl
theorem wi_461_184 : ri (rt_P sc fm) 461 184 (.goto (-32)) (187) := ri_of (by decide +kernel) rfl
theorem wi_461_187 : ri (rt_P sc fm) 461 187 (.aload_n 0) (188) := ri_of (by decide +kernel) rfl
theorem wi_461_188 : ri (rt_P sc fm) 461 188 (.dup) (189) := ri_of (by decide +kernel) rfl
theorem wi_461_189 : ri (rt_P sc fm) 461 189 (.getfield 877) (192) := ri_of (by decide +kernel) rfl
theorem wi_461_192 : ri (rt_P sc fm) 461 192 (.iconst 1) (193) := ri_of (by decide +kernel) rfl
theorem wi_461_193 : ri (rt_P sc fm) 461 193 (.iadd) (194) := ri_of (by decide +kernel) rfl
theorem wi_461_194 : ri (rt_P sc fm) 461 194 (.putfield 877) (197) := ri_of (by decide +kernel) rfl
theorem wi_461_197 : ri (rt_P sc fm) 461 197 (.iload_n 2) (198) := ri_of (by decide +kernel) rfl
theorem wi_461_198 : ri (rt_P sc fm) 461 198 (.aload_n 0) (199) := ri_of (by decide +kernel) rfl
theorem wi_461_199 : ri (rt_P sc fm) 461 199 (.getfield 280) (202) := ri_of (by decide +kernel) rfl
theorem wi_461_2 : ri (rt_P sc fm) 461 2 (.iload_n 1) (3) := ri_of (by decide +kernel) rfl
theorem wi_461_20 : ri (rt_P sc fm) 461 20 (.iconst 0) (21) := ri_of (by decide +kernel) rfl
theorem wi_461_202 : ri (rt_P sc fm) 461 202 (.iload 4) (204) := ri_of (by decide +kernel) rfl
theorem wi_461_204 : ri (rt_P sc fm) 461 204 (.iaload) (205) := ri_of (by decide +kernel) rfl
theorem wi_461_205 : ri (rt_P sc fm) 461 205 (.if_icmp .ne 54) (208) := ri_of (by decide +kernel) rfl
theorem wi_461_208 : ri (rt_P sc fm) 461 208 (.aload_n 0) (209) := ri_of (by decide +kernel) rfl
theorem wi_461_209 : ri (rt_P sc fm) 461 209 (.aload_n 0) (210) := ri_of (by decide +kernel) rfl
theorem wi_461_21 : ri (rt_P sc fm) 461 21 (.istore 7) (23) := ri_of (by decide +kernel) rfl
theorem wi_461_210 : ri (rt_P sc fm) 461 210 (.getfield 292) (213) := ri_of (by decide +kernel) rfl
theorem wi_461_213 : ri (rt_P sc fm) 461 213 (.aload_n 0) (214) := ri_of (by decide +kernel) rfl
theorem wi_461_214 : ri (rt_P sc fm) 461 214 (.getfield 274) (217) := ri_of (by decide +kernel) rfl
theorem wi_461_217 : ri (rt_P sc fm) 461 217 (.iload 6) (219) := ri_of (by decide +kernel) rfl
theorem wi_461_219 : ri (rt_P sc fm) 461 219 (.iconst 1) (220) := ri_of (by decide +kernel) rfl
theorem wi_461_220 : ri (rt_P sc fm) 461 220 (.isub) (221) := ri_of (by decide +kernel) rfl
theorem wi_461_221 : ri (rt_P sc fm) 461 221 (.aload_n 0) (222) := ri_of (by decide +kernel) rfl
theorem wi_461_222 : ri (rt_P sc fm) 461 222 (.iload 5) (224) := ri_of (by decide +kernel) rfl
theorem wi_461_224 : ri (rt_P sc fm) 461 224 (.aload_n 0) (225) := ri_of (by decide +kernel) rfl
theorem wi_461_225 : ri (rt_P sc fm) 461 225 (.getfield 283) (228) := ri_of (by decide +kernel) rfl
theorem wi_461_228 : ri (rt_P sc fm) 461 228 (.iload 4) (230) := ri_of (by decide +kernel) rfl
theorem wi_461_23 : ri (rt_P sc fm) 461 23 (.iload 7) (25) := ri_of (by decide +kernel) rfl
theorem wi_461_230 : ri (rt_P sc fm) 461 230 (.iaload) (231) := ri_of (by decide +kernel) rfl
theorem wi_461_231 : ri (rt_P sc fm) 461 231 (.invokevirtual 865) (234) := ri_of (by decide +kernel) rfl
theorem wi_461_234 : ri (rt_P sc fm) 461 234 (.isub) (235) := ri_of (by decide +kernel) rfl
theorem wi_461_235 : ri (rt_P sc fm) 461 235 (.iaload) (236) := ri_of (by decide +kernel) rfl
theorem wi_461_236 : ri (rt_P sc fm) 461 236 (.aload_n 0) (237) := ri_of (by decide +kernel) rfl
theorem wi_461_237 : ri (rt_P sc fm) 461 237 (.getfield 289) (240) := ri_of (by decide +kernel) rfl
theorem wi_461_240 : ri (rt_P sc fm) 461 240 (.iload 4) (242) := ri_of (by decide +kernel) rfl
theorem wi_461_242 : ri (rt_P sc fm) 461 242 (.iaload) (243) := ri_of (by decide +kernel) rfl
theorem wi_461_243 : ri (rt_P sc fm) 461 243 (.invokevirtual 535) (246) := ri_of (by decide +kernel) rfl
theorem wi_461_246 : ri (rt_P sc fm) 461 246 (.ifCond .ne 13) (249) := ri_of (by decide +kernel) rfl
theorem wi_461_249 : ri (rt_P sc fm) 461 249 (.aload_n 0) (250) := ri_of (by decide +kernel) rfl
theorem wi_461_25 : ri (rt_P sc fm) 461 25 (.aload_n 0) (26) := ri_of (by decide +kernel) rfl
theorem wi_461_250 : ri (rt_P sc fm) 461 250 (.aload_n 0) (251) := ri_of (by decide +kernel) rfl
theorem wi_461_251 : ri (rt_P sc fm) 461 251 (.getfield 877) (254) := ri_of (by decide +kernel) rfl
theorem wi_461_254 : ri (rt_P sc fm) 461 254 (.iconst 1) (255) := ri_of (by decide +kernel) rfl
theorem wi_461_255 : ri (rt_P sc fm) 461 255 (.isub) (256) := ri_of (by decide +kernel) rfl
theorem wi_461_256 : ri (rt_P sc fm) 461 256 (.putfield 883) (259) := ri_of (by decide +kernel) rfl
theorem wi_461_259 : ri (rt_P sc fm) 461 259 (.return_) (260) := ri_of (by decide +kernel) rfl
theorem wi_461_26 : ri (rt_P sc fm) 461 26 (.getfield 877) (29) := ri_of (by decide +kernel) rfl
theorem wi_461_29 : ri (rt_P sc fm) 461 29 (.if_icmp .ge 84) (32) := ri_of (by decide +kernel) rfl
theorem wi_461_3 : ri (rt_P sc fm) 461 3 (.imul) (4) := ri_of (by decide +kernel) rfl
theorem wi_461_32 : ri (rt_P sc fm) 461 32 (.aload_n 0) (33) := ri_of (by decide +kernel) rfl
theorem wi_461_33 : ri (rt_P sc fm) 461 33 (.getfield 296) (36) := ri_of (by decide +kernel) rfl
theorem wi_461_36 : ri (rt_P sc fm) 461 36 (.iload 7) (38) := ri_of (by decide +kernel) rfl
theorem wi_461_38 : ri (rt_P sc fm) 461 38 (.iaload) (39) := ri_of (by decide +kernel) rfl
theorem wi_461_39 : ri (rt_P sc fm) 461 39 (.iload_n 2) (40) := ri_of (by decide +kernel) rfl
theorem wi_461_4 : ri (rt_P sc fm) 461 4 (.iload_n 2) (5) := ri_of (by decide +kernel) rfl
theorem wi_461_40 : ri (rt_P sc fm) 461 40 (.if_icmp .ne 7) (43) := ri_of (by decide +kernel) rfl
theorem wi_461_43 : ri (rt_P sc fm) 461 43 (.iconst 1) (44) := ri_of (by decide +kernel) rfl
theorem wi_461_44 : ri (rt_P sc fm) 461 44 (.goto 4) (47) := ri_of (by decide +kernel) rfl
theorem wi_461_47 : ri (rt_P sc fm) 461 47 (.iconst 0) (48) := ri_of (by decide +kernel) rfl
theorem wi_461_48 : ri (rt_P sc fm) 461 48 (.istore 8) (50) := ri_of (by decide +kernel) rfl
theorem wi_461_5 : ri (rt_P sc fm) 461 5 (.iadd) (6) := ri_of (by decide +kernel) rfl
theorem wi_461_50 : ri (rt_P sc fm) 461 50 (.iconst 0) (51) := ri_of (by decide +kernel) rfl
theorem wi_461_51 : ri (rt_P sc fm) 461 51 (.istore 9) (53) := ri_of (by decide +kernel) rfl
theorem wi_461_53 : ri (rt_P sc fm) 461 53 (.iload 9) (55) := ri_of (by decide +kernel) rfl
theorem wi_461_55 : ri (rt_P sc fm) 461 55 (.iload 6) (57) := ri_of (by decide +kernel) rfl
theorem wi_461_57 : ri (rt_P sc fm) 461 57 (.if_icmp .ge 44) (60) := ri_of (by decide +kernel) rfl
theorem wi_461_6 : ri (rt_P sc fm) 461 6 (.istore 5) (8) := ri_of (by decide +kernel) rfl
theorem wi_461_60 : ri (rt_P sc fm) 461 60 (.iload 8) (62) := ri_of (by decide +kernel) rfl
theorem wi_461_62 : ri (rt_P sc fm) 461 62 (.ifCond .eq 39) (65) := ri_of (by decide +kernel) rfl
theorem wi_461_65 : ri (rt_P sc fm) 461 65 (.aload_n 0) (66) := ri_of (by decide +kernel) rfl
theorem wi_461_66 : ri (rt_P sc fm) 461 66 (.getfield 302) (69) := ri_of (by decide +kernel) rfl
theorem wi_461_69 : ri (rt_P sc fm) 461 69 (.bipush 16) (71) := ri_of (by decide +kernel) rfl
theorem wi_461_71 : ri (rt_P sc fm) 461 71 (.iload 7) (73) := ri_of (by decide +kernel) rfl
theorem wi_461_73 : ri (rt_P sc fm) 461 73 (.imul) (74) := ri_of (by decide +kernel) rfl
theorem wi_461_74 : ri (rt_P sc fm) 461 74 (.iload 9) (76) := ri_of (by decide +kernel) rfl
theorem wi_461_76 : ri (rt_P sc fm) 461 76 (.iadd) (77) := ri_of (by decide +kernel) rfl
theorem wi_461_77 : ri (rt_P sc fm) 461 77 (.iaload) (78) := ri_of (by decide +kernel) rfl
theorem wi_461_78 : ri (rt_P sc fm) 461 78 (.aload_n 0) (79) := ri_of (by decide +kernel) rfl
theorem wi_461_79 : ri (rt_P sc fm) 461 79 (.getfield 274) (82) := ri_of (by decide +kernel) rfl
theorem wi_461_8 : ri (rt_P sc fm) 461 8 (.bipush 8) (10) := ri_of (by decide +kernel) rfl
theorem wi_461_82 : ri (rt_P sc fm) 461 82 (.iload 9) (84) := ri_of (by decide +kernel) rfl
theorem wi_461_84 : ri (rt_P sc fm) 461 84 (.iaload) (85) := ri_of (by decide +kernel) rfl
theorem wi_461_85 : ri (rt_P sc fm) 461 85 (.if_icmp .ne 7) (88) := ri_of (by decide +kernel) rfl
theorem wi_461_88 : ri (rt_P sc fm) 461 88 (.iconst 1) (89) := ri_of (by decide +kernel) rfl
theorem wi_461_89 : ri (rt_P sc fm) 461 89 (.goto 4) (92) := ri_of (by decide +kernel) rfl
theorem wi_461_92 : ri (rt_P sc fm) 461 92 (.iconst 0) (93) := ri_of (by decide +kernel) rfl
theorem wi_461_93 : ri (rt_P sc fm) 461 93 (.istore 8) (95) := ri_of (by decide +kernel) rfl
theorem wi_461_95 : ri (rt_P sc fm) 461 95 (.iinc 9 1) (98) := ri_of (by decide +kernel) rfl
theorem wi_461_98 : ri (rt_P sc fm) 461 98 (.goto (-45)) (101) := ri_of (by decide +kernel) rfl
set_option maxRecDepth 100000 in
theorem wp_461_877 : rx_pt (rt_P sc fm) 461 877 = some (15, 101, .int) := (by decide +kernel : rt_pt 461 877 = some (15, 101, .int))
set_option maxRecDepth 100000 in
theorem wp_461_880 : rx_pt (rt_P sc fm) 461 880 = some (15, 104, .boolean) := (by decide +kernel : rt_pt 461 880 = some (15, 104, .boolean))
set_option maxRecDepth 100000 in
theorem wp_461_883 : rx_pt (rt_P sc fm) 461 883 = some (15, 105, .int) := (by decide +kernel : rt_pt 461 883 = some (15, 105, .int))
set_option maxRecDepth 100000 in
theorem wr_461 : rx_rt (rt_P sc fm) 461 = none := (by decide +kernel : rt_rt 461 = none)
/-- MarkHouseModel.meets(IIII)V -/
def d_461 (n : Nat) (a1 : Int32) (a2 : Int32) (a3 : Int32) (a4 : Int32) (c : cS) : Option (cS) :=
  lt (((40 * a1) + a2) : Int32) (fun v2 =>
  if ib v2 3840 then
  lt ((8 + (c.1 230 (ix v2))) : Int32) (fun v6 =>
  Option.bind (whl (R := (Unit) ⊕ (Unit)) (fun s9 : Int32 =>
    if (c.1 174 101) ≤ s9 then
      some (.inr (.inl ()))
    else
      if ib s9 400 then
      jn (fun p11 : Int32 =>
        Option.bind (whl (R := (Int32)) (fun s14 : Int32 × Int32 =>
          if v6 ≤ s14.2 then
            some (.inr s14.1)
          else
            if s14.1 = 0 then
              some (.inr s14.1)
            else
              if ib ((16 * s9) + s14.2) 6400 then
              if ib s14.2 16 then
              jn (fun p17 : Int32 =>
                lt (s14.2 + 1 : Int32) (fun v20 =>
                some (.inl (p17, v20))))
              (fun j93 =>
              if (c.1 248 (ix ((16 * s9) + s14.2))) = (c.1 240 (ix s14.2)) then
                j93 1
              else
                j93 0)
              else none
              else none) n (p11, 0))
        (fun x22 : Int32 =>
          if x22 = 0 then
            lt (s9 + 1 : Int32) (fun v24 =>
            some (.inl v24))
          else
            some (.inr (.inr ()))))
      (fun j48 =>
      if (c.1 246 (ix s9)) = a2 then
        j48 1
      else
        j48 0)
      else none) n 0)
  (Sum.elim (fun x26 : Unit =>
    if (c.1 174 101) = 400 then
      lt (pI c 174 104 1) (fun c54 =>
      some c54)
    else
      if ib (c.1 174 101) 400 then
      lt (pI c 246 (ix (c.1 174 101)) a2) (fun c28 =>
      if ib (c28.1 174 101) 400 then
      lt (pI c28 247 (ix (c28.1 174 101)) a3) (fun c31 =>
      Option.bind (whl (R := (cS)) (fun s34 : Int32 × cS =>
        if 16 ≤ s34.1 then
          some (.inr s34.2)
        else
          if ib s34.1 16 then
          if ib ((16 * (s34.2.1 174 101)) + s34.1) 6400 then
          lt (pI s34.2 248 (ix ((16 * (s34.2.1 174 101)) + s34.1)) (s34.2.1 240 (ix s34.1))) (fun c37 =>
          lt (s34.1 + 1 : Int32) (fun v40 =>
          some (.inl (v40, c37))))
          else none
          else none) n (0, c31))
      (fun x42 : cS =>
        lt (pI x42 174 101 ((x42.1 174 101) + 1)) (fun c43 =>
        if ib a4 15360 then
        jn (fun p46 : cS =>
          some p46)
        (fun j259 =>
        if a2 = (c43.1 242 (ix a4)) then
          if ib a4 15360 then
          Option.bind (d_459 n v2 (c43.1 243 (ix a4)) c43) (fun v48 =>
          if ib ((v6 - 1) - v48) 16 then
          if ib a4 15360 then
          Option.bind (d_387 n (c43.1 174 97) (c43.1 240 (ix ((v6 - 1) - v48))) (c43.1 245 (ix a4)) c43) (fun v51 =>
          if v51 = 0 then
            lt (pI c43 174 105 ((c43.1 174 101) - 1)) (fun c52 =>
            j259 c52)
          else
            j259 c43)
          else none
          else none)
          else none
        else
          j259 c43)
        else none)))
      else none)
      else none)
  (fun x56 : Unit =>
    some c)))
  else none)
set_option maxRecDepth 100000 in
set_option maxHeartbeats 4000000 in
theorem sp_461 {F Lo n : Nat} {a1 : Int32} {a2 : Int32} {a3 : Int32} {a4 : Int32} {c y : cS} {w : cW} {K : cS → Prop} {Q : ((Option Value) ⊕ String) → List va_E → Prop} (hw : rOK fm w) (hF : 2 ≤ F) (hLo : 46 ≤ Lo)  (h : wp (d_461 n a1 a2 a3 a4 c) K) (hQ : ∀ r, K r → Q (.inl none) (hq false r y w)) : rs (rt_P sc fm) 461 F Lo 0 [(0, .ref 174), (1, .int a1), (2, .int a2), (3, .int a3), (4, .int a4)] [] (hq false c y w) Q := by
  unfold d_461 at h
  obtain ⟨lv, elv⟩ : ∃ lv : rx_L, lv = [(0, .ref 174), (1, .int a1), (2, .int a2), (3, .int a3), (4, .int a4)] := ⟨_, rfl⟩
  rw [← elv]
  have l0 : rx_ld lv 0 = some (.ref 174) := by rw [elv]; rfl
  have l1 : rx_ld lv 1 = some (.int a1) := by rw [elv]; rfl
  have l2 : rx_ld lv 2 = some (.int a2) := by rw [elv]; rfl
  have l3 : rx_ld lv 3 = some (.int a3) := by rw [elv]; rfl
  have l4 : rx_ld lv 4 = some (.int a4) := by rw [elv]; rfl
  refine rs_pure wi_461_0 rfl ?_
  refine rs_topi (v := 40) (by decide) ?_
  refine rs_ildn wi_461_2 l1 ?_
  refine rs_pure wi_461_3 rfl ?_
  refine rs_ildn wi_461_4 l2 ?_
  refine rs_pure wi_461_5 rfl ?_
  obtain ⟨v2, e3, h⟩ := wp_lt h
  refine rs_topi e3 ?_
  refine dl_ist wi_461_6 rfl (fun lv l5 t1 => ?_)
  have l0 := t1 _ _ (by decide) (Or.inl rfl) l0
  have l2 := t1 _ _ (by decide) (Or.inl rfl) l2
  have l3 := t1 _ _ (by decide) (Or.inl rfl) l3
  have l4 := t1 _ _ (by decide) (Or.inl rfl) l4
  refine rs_pure wi_461_8 rfl ?_
  refine rs_topi (v := 8) (by decide) ?_
  refine rs_aldn wi_461_10 l0 ?_
  refine dq_gr wi_461_11 wf_461_243 tf_174_70 ?_
  refine rs_ild wi_461_14 l5 ?_
  obtain ⟨g4, h⟩ := wp_gd h
  refine dq_iald wi_461_16 t_230 g4 ?_
  refine rs_pure wi_461_17 rfl ?_
  obtain ⟨v6, e7, h⟩ := wp_lt h
  refine rs_topi e7 ?_
  refine dl_ist wi_461_18 rfl (fun lv l6 t5 => ?_)
  have l0 := t5 _ _ (by decide) (Or.inl rfl) l0
  have l2 := t5 _ _ (by decide) (Or.inl rfl) l2
  have l3 := t5 _ _ (by decide) (Or.inl rfl) l3
  have l4 := t5 _ _ (by decide) (Or.inl rfl) l4
  have l5 := t5 _ _ (by decide) (Or.inl rfl) l5
  refine rs_pure wi_461_20 rfl ?_
  refine rs_topi (v := 0) (by decide) ?_
  refine dl_ist wi_461_21 rfl (fun lv l7 t8 => ?_)
  have l0 := t8 _ _ (by decide) (Or.inl rfl) l0
  have l2 := t8 _ _ (by decide) (Or.inl rfl) l2
  have l3 := t8 _ _ (by decide) (Or.inl rfl) l3
  have l4 := t8 _ _ (by decide) (Or.inl rfl) l4
  have l5 := t8 _ _ (by decide) (Or.inl rfl) l5
  have l6 := t8 _ _ (by decide) (Or.inl rfl) l6
  refine whl_ex (A := fun s9 : Int32 => ∀ lv, rx_ld lv 0 = some (.ref 174) → rx_ld lv 2 = some (.int a2) → rx_ld lv 3 = some (.int a3) → rx_ld lv 4 = some (.int a4) → rx_ld lv 5 = some (.int v2) → rx_ld lv 6 = some (.int v6) → rx_ld lv 7 = some (.int s9) → rs (rt_P sc fm) 461 F Lo 23 lv [] (hq false c y w) Q) (B := (Sum.elim (fun x26 : Unit => ∀ lv, rx_ld lv 0 = some (.ref 174) → rx_ld lv 2 = some (.int a2) → rx_ld lv 3 = some (.int a3) → rx_ld lv 4 = some (.int a4) → rx_ld lv 5 = some (.int v2) → rx_ld lv 6 = some (.int v6) → rs (rt_P sc fm) 461 F Lo 113 lv [] (hq false c y w) Q) (fun x56 : Unit => ∀ lv, rs (rt_P sc fm) 461 F Lo 106 lv [] (hq false c y w) Q))) ?_ ?_ _ _ (wp_bind h) _ l0 l2 l3 l4 l5 l6 l7
  · intro s9 h lv l0 l2 l3 l4 l5 l6 l7
    refine rs_ild wi_461_23 l7 ?_
    refine rs_aldn wi_461_25 l0 ?_
    refine dq_gi wi_461_26 wf_461_877 tf_174_101 ?_
    refine rs_icge (tg := 113) wi_461_29 ⟨by decide, by decide⟩ (fun q => ?_) (fun q => ?_)
    ·
      have h := wp_pos h q
      exact h _ l0 l2 l3 l4 l5 l6
    ·
      have h := wp_neg h q
      refine rs_aldn wi_461_32 l0 ?_
      refine dq_gr wi_461_33 wf_461_296 tf_174_98 ?_
      refine rs_ild wi_461_36 l7 ?_
      obtain ⟨g10, h⟩ := wp_gd h
      refine dq_iald wi_461_38 t_246 g10 ?_
      refine rs_ildn wi_461_39 l2 ?_
      refine wp_jn (B := fun p11 : Int32 => ∀ lv, rx_ld lv 0 = some (.ref 174) → rx_ld lv 2 = some (.int a2) → rx_ld lv 3 = some (.int a3) → rx_ld lv 4 = some (.int a4) → rx_ld lv 5 = some (.int v2) → rx_ld lv 6 = some (.int v6) → rx_ld lv 7 = some (.int s9) → rs (rt_P sc fm) 461 F Lo 48 lv [.int p11] (hq false c y w) Q) h (fun p11 h lv l0 l2 l3 l4 l5 l6 l7 => ?_) (fun j48 hj48 h => ?_)
      ·
        refine dl_ist wi_461_48 rfl (fun lv l8 t12 => ?_)
        have l0 := t12 _ _ (by decide) (Or.inl rfl) l0
        have l2 := t12 _ _ (by decide) (Or.inl rfl) l2
        have l3 := t12 _ _ (by decide) (Or.inl rfl) l3
        have l4 := t12 _ _ (by decide) (Or.inl rfl) l4
        have l5 := t12 _ _ (by decide) (Or.inl rfl) l5
        have l6 := t12 _ _ (by decide) (Or.inl rfl) l6
        have l7 := t12 _ _ (by decide) (Or.inl rfl) l7
        refine rs_pure wi_461_50 rfl ?_
        refine rs_topi (v := 0) (by decide) ?_
        refine dl_ist wi_461_51 rfl (fun lv l9 t13 => ?_)
        have l0 := t13 _ _ (by decide) (Or.inl rfl) l0
        have l2 := t13 _ _ (by decide) (Or.inl rfl) l2
        have l3 := t13 _ _ (by decide) (Or.inl rfl) l3
        have l4 := t13 _ _ (by decide) (Or.inl rfl) l4
        have l5 := t13 _ _ (by decide) (Or.inl rfl) l5
        have l6 := t13 _ _ (by decide) (Or.inl rfl) l6
        have l7 := t13 _ _ (by decide) (Or.inl rfl) l7
        have l8 := t13 _ _ (by decide) (Or.inl rfl) l8
        refine whl_ex (A := fun s14 : Int32 × Int32 => ∀ lv, rx_ld lv 0 = some (.ref 174) → rx_ld lv 2 = some (.int a2) → rx_ld lv 3 = some (.int a3) → rx_ld lv 4 = some (.int a4) → rx_ld lv 5 = some (.int v2) → rx_ld lv 6 = some (.int v6) → rx_ld lv 7 = some (.int s9) → rx_ld lv 8 = some (.int s14.1) → rx_ld lv 9 = some (.int s14.2) → rs (rt_P sc fm) 461 F Lo 53 lv [] (hq false c y w) Q) (B := (fun x22 : Int32 => ∀ lv, rx_ld lv 0 = some (.ref 174) → rx_ld lv 2 = some (.int a2) → rx_ld lv 3 = some (.int a3) → rx_ld lv 4 = some (.int a4) → rx_ld lv 5 = some (.int v2) → rx_ld lv 6 = some (.int v6) → rx_ld lv 7 = some (.int s9) → rx_ld lv 8 = some (.int x22) → rs (rt_P sc fm) 461 F Lo 101 lv [] (hq false c y w) Q)) ?_ ?_ _ _ (wp_bind h) _ l0 l2 l3 l4 l5 l6 l7 l8 l9
        · intro s14 h lv l0 l2 l3 l4 l5 l6 l7 l8 l9
          refine rs_ild wi_461_53 l9 ?_
          refine rs_ild wi_461_55 l6 ?_
          refine rs_icge (tg := 101) wi_461_57 ⟨by decide, by decide⟩ (fun q => ?_) (fun q => ?_)
          ·
            have h := wp_pos h q
            exact h _ l0 l2 l3 l4 l5 l6 l7 l8
          ·
            have h := wp_neg h q
            refine rs_ild wi_461_60 l8 ?_
            refine rs_ifeq (tg := 101) wi_461_62 ⟨by decide, by decide⟩ (fun q => ?_) (fun q => ?_)
            ·
              have h := wp_pos h q
              exact h _ l0 l2 l3 l4 l5 l6 l7 l8
            ·
              have h := wp_neg h q
              refine rs_aldn wi_461_65 l0 ?_
              refine dq_gr wi_461_66 wf_461_302 tf_174_100 ?_
              refine rs_pure wi_461_69 rfl ?_
              refine rs_topi (v := 16) (by decide) ?_
              refine rs_ild wi_461_71 l7 ?_
              refine rs_pure wi_461_73 rfl ?_
              refine rs_ild wi_461_74 l9 ?_
              refine rs_pure wi_461_76 rfl ?_
              obtain ⟨g15, h⟩ := wp_gd h
              refine dq_iald wi_461_77 t_248 g15 ?_
              refine rs_aldn wi_461_78 l0 ?_
              refine dq_gr wi_461_79 wf_461_274 tf_174_89 ?_
              refine rs_ild wi_461_82 l9 ?_
              obtain ⟨g16, h⟩ := wp_gd h
              refine dq_iald wi_461_84 t_240 g16 ?_
              refine wp_jn (B := fun p17 : Int32 => ∀ lv, rx_ld lv 0 = some (.ref 174) → rx_ld lv 2 = some (.int a2) → rx_ld lv 3 = some (.int a3) → rx_ld lv 4 = some (.int a4) → rx_ld lv 5 = some (.int v2) → rx_ld lv 6 = some (.int v6) → rx_ld lv 7 = some (.int s9) → rx_ld lv 9 = some (.int s14.2) → rs (rt_P sc fm) 461 F Lo 93 lv [.int p17] (hq false c y w) Q) h (fun p17 h lv l0 l2 l3 l4 l5 l6 l7 l9 => ?_) (fun j93 hj93 h => ?_)
              ·
                refine dl_ist wi_461_93 rfl (fun lv l8 t18 => ?_)
                have l0 := t18 _ _ (by decide) (Or.inl rfl) l0
                have l2 := t18 _ _ (by decide) (Or.inl rfl) l2
                have l3 := t18 _ _ (by decide) (Or.inl rfl) l3
                have l4 := t18 _ _ (by decide) (Or.inl rfl) l4
                have l5 := t18 _ _ (by decide) (Or.inl rfl) l5
                have l6 := t18 _ _ (by decide) (Or.inl rfl) l6
                have l7 := t18 _ _ (by decide) (Or.inl rfl) l7
                have l9 := t18 _ _ (by decide) (Or.inl rfl) l9
                obtain ⟨v20, e21, h⟩ := wp_lt h
                refine dl_inc wi_461_95 l9 rfl e21 (fun lv l9 t19 => ?_)
                have l0 := t19 _ _ (by decide) (Or.inl rfl) l0
                have l2 := t19 _ _ (by decide) (Or.inl rfl) l2
                have l3 := t19 _ _ (by decide) (Or.inl rfl) l3
                have l4 := t19 _ _ (by decide) (Or.inl rfl) l4
                have l5 := t19 _ _ (by decide) (Or.inl rfl) l5
                have l6 := t19 _ _ (by decide) (Or.inl rfl) l6
                have l7 := t19 _ _ (by decide) (Or.inl rfl) l7
                have l8 := t19 _ _ (by decide) (Or.inl rfl) l8
                refine rs_goto (tg := 53) wi_461_98 ⟨by decide, by decide⟩ ?_
                exact h _ l0 l2 l3 l4 l5 l6 l7 l8 l9
              refine rs_icne (tg := 92) wi_461_85 ⟨by decide, by decide⟩ (fun q => ?_) (fun q => ?_)
              ·
                have h := wp_neg h q
                refine rs_pure wi_461_92 rfl ?_
                refine rs_topi (v := 0) (by decide) ?_
                exact hj93 _ h _ l0 l2 l3 l4 l5 l6 l7 l9
              ·
                have h := wp_pos h q
                refine rs_pure wi_461_88 rfl ?_
                refine rs_topi (v := 1) (by decide) ?_
                refine rs_goto (tg := 93) wi_461_89 ⟨by decide, by decide⟩ ?_
                exact hj93 _ h _ l0 l2 l3 l4 l5 l6 l7 l9
        ·
          intro x22 h lv l0 l2 l3 l4 l5 l6 l7 l8
          refine rs_ild wi_461_101 l8 ?_
          refine rs_ifeq (tg := 107) wi_461_103 ⟨by decide, by decide⟩ (fun q => ?_) (fun q => ?_)
          ·
            have h := wp_pos h q
            obtain ⟨v24, e25, h⟩ := wp_lt h
            refine dl_inc wi_461_107 l7 rfl e25 (fun lv l7 t23 => ?_)
            have l0 := t23 _ _ (by decide) (Or.inl rfl) l0
            have l2 := t23 _ _ (by decide) (Or.inl rfl) l2
            have l3 := t23 _ _ (by decide) (Or.inl rfl) l3
            have l4 := t23 _ _ (by decide) (Or.inl rfl) l4
            have l5 := t23 _ _ (by decide) (Or.inl rfl) l5
            have l6 := t23 _ _ (by decide) (Or.inl rfl) l6
            refine rs_goto (tg := 23) wi_461_110 ⟨by decide, by decide⟩ ?_
            exact h _ l0 l2 l3 l4 l5 l6 l7
          ·
            have h := wp_neg h q
            exact h _
      refine rs_icne (tg := 47) wi_461_40 ⟨by decide, by decide⟩ (fun q => ?_) (fun q => ?_)
      ·
        have h := wp_neg h q
        refine rs_pure wi_461_47 rfl ?_
        refine rs_topi (v := 0) (by decide) ?_
        exact hj48 _ h _ l0 l2 l3 l4 l5 l6 l7
      ·
        have h := wp_pos h q
        refine rs_pure wi_461_43 rfl ?_
        refine rs_topi (v := 1) (by decide) ?_
        refine rs_goto (tg := 48) wi_461_44 ⟨by decide, by decide⟩ ?_
        exact hj48 _ h _ l0 l2 l3 l4 l5 l6 l7
  ·
    refine sum_all ?_ ?_
    ·
      intro x26 h lv l0 l2 l3 l4 l5 l6
      have h := wp_inl h
      refine rs_aldn wi_461_113 l0 ?_
      refine dq_gi wi_461_114 wf_461_877 tf_174_101 ?_
      refine rs_pure wi_461_117 rfl ?_
      refine rs_topi (v := 400) (by decide) ?_
      refine rs_icne (tg := 129) wi_461_120 ⟨by decide, by decide⟩ (fun q => ?_) (fun q => ?_)
      ·
        have h := wp_neg h q
        refine rs_aldn wi_461_129 l0 ?_
        refine dq_gr wi_461_130 wf_461_296 tf_174_98 ?_
        refine rs_aldn wi_461_133 l0 ?_
        refine dq_gi wi_461_134 wf_461_877 tf_174_101 ?_
        refine rs_ildn wi_461_137 l2 ?_
        obtain ⟨g27, h⟩ := wp_gd h
        obtain ⟨c28, e29, h⟩ := wp_lt h
        refine dq_iast wi_461_138 t_246 g27 e29 ?_
        refine rs_aldn wi_461_139 l0 ?_
        refine dq_gr wi_461_140 wf_461_299 tf_174_99 ?_
        refine rs_aldn wi_461_143 l0 ?_
        refine dq_gi wi_461_144 wf_461_877 tf_174_101 ?_
        refine rs_ildn wi_461_147 l3 ?_
        obtain ⟨g30, h⟩ := wp_gd h
        obtain ⟨c31, e32, h⟩ := wp_lt h
        refine dq_iast wi_461_148 t_247 g30 e32 ?_
        refine rs_pure wi_461_149 rfl ?_
        refine rs_topi (v := 0) (by decide) ?_
        refine dl_ist wi_461_150 rfl (fun lv l7 t33 => ?_)
        have l0 := t33 _ _ (by decide) (Or.inl rfl) l0
        have l2 := t33 _ _ (by decide) (Or.inl rfl) l2
        have l4 := t33 _ _ (by decide) (Or.inl rfl) l4
        have l5 := t33 _ _ (by decide) (Or.inl rfl) l5
        have l6 := t33 _ _ (by decide) (Or.inl rfl) l6
        refine whl_ex (A := fun s34 : Int32 × cS => ∀ lv, rx_ld lv 0 = some (.ref 174) → rx_ld lv 2 = some (.int a2) → rx_ld lv 4 = some (.int a4) → rx_ld lv 5 = some (.int v2) → rx_ld lv 6 = some (.int v6) → rx_ld lv 7 = some (.int s34.1) → rs (rt_P sc fm) 461 F Lo 152 lv [] (hq false s34.2 y w) Q) (B := (fun x42 : cS => ∀ lv, rx_ld lv 0 = some (.ref 174) → rx_ld lv 2 = some (.int a2) → rx_ld lv 4 = some (.int a4) → rx_ld lv 5 = some (.int v2) → rx_ld lv 6 = some (.int v6) → rs (rt_P sc fm) 461 F Lo 187 lv [] (hq false x42 y w) Q)) ?_ ?_ _ _ (wp_bind h) _ l0 l2 l4 l5 l6 l7
        · intro s34 h lv l0 l2 l4 l5 l6 l7
          refine rs_ild wi_461_152 l7 ?_
          refine rs_pure wi_461_154 rfl ?_
          refine rs_topi (v := 16) (by decide) ?_
          refine rs_icge (tg := 187) wi_461_156 ⟨by decide, by decide⟩ (fun q => ?_) (fun q => ?_)
          ·
            have h := wp_pos h q
            exact h _ l0 l2 l4 l5 l6
          ·
            have h := wp_neg h q
            refine rs_aldn wi_461_159 l0 ?_
            refine dq_gr wi_461_160 wf_461_302 tf_174_100 ?_
            refine rs_pure wi_461_163 rfl ?_
            refine rs_topi (v := 16) (by decide) ?_
            refine rs_aldn wi_461_165 l0 ?_
            refine dq_gi wi_461_166 wf_461_877 tf_174_101 ?_
            refine rs_pure wi_461_169 rfl ?_
            refine rs_ild wi_461_170 l7 ?_
            refine rs_pure wi_461_172 rfl ?_
            refine rs_aldn wi_461_173 l0 ?_
            refine dq_gr wi_461_174 wf_461_274 tf_174_89 ?_
            refine rs_ild wi_461_177 l7 ?_
            obtain ⟨g35, h⟩ := wp_gd h
            refine dq_iald wi_461_179 t_240 g35 ?_
            obtain ⟨g36, h⟩ := wp_gd h
            obtain ⟨c37, e38, h⟩ := wp_lt h
            refine dq_iast wi_461_180 t_248 g36 e38 ?_
            obtain ⟨v40, e41, h⟩ := wp_lt h
            refine dl_inc wi_461_181 l7 rfl e41 (fun lv l7 t39 => ?_)
            have l0 := t39 _ _ (by decide) (Or.inl rfl) l0
            have l2 := t39 _ _ (by decide) (Or.inl rfl) l2
            have l4 := t39 _ _ (by decide) (Or.inl rfl) l4
            have l5 := t39 _ _ (by decide) (Or.inl rfl) l5
            have l6 := t39 _ _ (by decide) (Or.inl rfl) l6
            refine rs_goto (tg := 152) wi_461_184 ⟨by decide, by decide⟩ ?_
            exact h _ l0 l2 l4 l5 l6 l7
        ·
          intro x42 h lv l0 l2 l4 l5 l6
          refine rs_aldn wi_461_187 l0 ?_
          refine rs_pure wi_461_188 rfl ?_
          refine dq_gi wi_461_189 wf_461_877 tf_174_101 ?_
          refine rs_pure wi_461_192 rfl ?_
          refine rs_topi (v := 1) (by decide) ?_
          refine rs_pure wi_461_193 rfl ?_
          obtain ⟨c43, e44, h⟩ := wp_lt h
          refine dq_pi wi_461_194 wp_461_877 tf_174_101 rfl rfl e44 ?_
          refine rs_ildn wi_461_197 l2 ?_
          refine rs_aldn wi_461_198 l0 ?_
          refine dq_gr wi_461_199 wf_461_280 tf_174_93 ?_
          refine rs_ild wi_461_202 l4 ?_
          obtain ⟨g45, h⟩ := wp_gd h
          refine dq_iald wi_461_204 t_242 g45 ?_
          refine wp_jn (B := fun p46 : cS => ∀ lv, rs (rt_P sc fm) 461 F Lo 259 lv [] (hq false p46 y w) Q) h (fun p46 h lv => ?_) (fun j259 hj259 h => ?_)
          ·
            exact rs_vret wi_461_259 wr_461 (hQ p46 h)
          refine rs_icne (tg := 259) wi_461_205 ⟨by decide, by decide⟩ (fun q => ?_) (fun q => ?_)
          ·
            have h := wp_neg h q
            exact hj259 _ h _
          ·
            have h := wp_pos h q
            refine rs_aldn wi_461_208 l0 ?_
            refine rs_aldn wi_461_209 l0 ?_
            refine dq_gi wi_461_210 wf_461_292 tf_174_97 ?_
            refine rs_aldn wi_461_213 l0 ?_
            refine dq_gr wi_461_214 wf_461_274 tf_174_89 ?_
            refine rs_ild wi_461_217 l6 ?_
            refine rs_pure wi_461_219 rfl ?_
            refine rs_topi (v := 1) (by decide) ?_
            refine rs_pure wi_461_220 rfl ?_
            refine rs_aldn wi_461_221 l0 ?_
            refine rs_ild wi_461_222 l5 ?_
            refine rs_aldn wi_461_224 l0 ?_
            refine dq_gr wi_461_225 wf_461_283 tf_174_94 ?_
            refine rs_ild wi_461_228 l4 ?_
            obtain ⟨g47, h⟩ := wp_gd h
            refine dq_iald wi_461_230 t_243 g47 ?_
            refine rs_V wi_461_231 wc_461_865 rfl (dq_isa tf_174_0 wa_15_459) (Nat.le_trans (by decide) hF) (ml_le wm_459 (Nat.le_trans (by decide) hLo)) rfl (sp_459 hw (Nat.le_trans (by decide : 1 ≤ 2 - 1) (Nat.sub_le_sub_right hF 1)) (ml_sub wm_459 (Nat.le_trans (by decide : 21 ≤ 46 - 22) (Nat.sub_le_sub_right hLo 22))) (wp_bind h) (fun v48 h => rs_back1 ?_))
            refine rs_pure wi_461_234 rfl ?_
            obtain ⟨g49, h⟩ := wp_gd h
            refine dq_iald wi_461_235 t_240 g49 ?_
            refine rs_aldn wi_461_236 l0 ?_
            refine dq_gr wi_461_237 wf_461_289 tf_174_96 ?_
            refine rs_ild wi_461_240 l4 ?_
            obtain ⟨g50, h⟩ := wp_gd h
            refine dq_iald wi_461_242 t_245 g50 ?_
            refine rs_V wi_461_243 wc_461_535 rfl (dq_isa tf_174_0 wa_15_387) (Nat.le_trans (by decide) hF) (ml_le wm_387 (Nat.le_trans (by decide) hLo)) rfl (sp_387 hw (Nat.le_trans (by decide : 1 ≤ 2 - 1) (Nat.sub_le_sub_right hF 1)) (ml_sub wm_387 (Nat.le_trans (by decide : 23 ≤ 46 - 23) (Nat.sub_le_sub_right hLo 23))) (wp_bind h) (fun v51 h => rs_back1 ?_))
            refine rs_ifne (tg := 259) wi_461_246 ⟨by decide, by decide⟩ (fun q => ?_) (fun q => ?_)
            ·
              have h := wp_neg h q
              exact hj259 _ h _
            ·
              have h := wp_pos h q
              refine rs_aldn wi_461_249 l0 ?_
              refine rs_aldn wi_461_250 l0 ?_
              refine dq_gi wi_461_251 wf_461_877 tf_174_101 ?_
              refine rs_pure wi_461_254 rfl ?_
              refine rs_topi (v := 1) (by decide) ?_
              refine rs_pure wi_461_255 rfl ?_
              obtain ⟨c52, e53, h⟩ := wp_lt h
              refine dq_pi wi_461_256 wp_461_883 tf_174_105 rfl rfl e53 ?_
              exact hj259 _ h _
      ·
        have h := wp_pos h q
        refine rs_aldn wi_461_123 l0 ?_
        refine rs_pure wi_461_124 rfl ?_
        refine rs_topi (v := 1) (by decide) ?_
        obtain ⟨c54, e55, h⟩ := wp_lt h
        refine dq_pi wi_461_125 wp_461_880 tf_174_104 (nb_n (by decide)) (nb_f (by decide)) e55 ?_
        exact rs_vret wi_461_128 wr_461 (hQ c54 h)
    ·
      intro x56 h lv
      have h := wp_inr h
      exact rs_vret wi_461_106 wr_461 (hQ c h)
set_option maxRecDepth 100000 in
theorem wa_15_461 : rz_cn 15 (rx_yn (rt_P sc fm) 461).cls = true := (by decide +kernel : rz_cn 15 (rt_yn 461).cls = true)
set_option maxRecDepth 100000 in
theorem wc_462_730 : rx_ct (rt_P sc fm) 462 730 = some (0, 391, 3) := (by decide +kernel : rt_ct 462 730 = some (0, 391, 3))
set_option maxRecDepth 100000 in
theorem wc_462_850 : rx_ct (rt_P sc fm) 462 850 = some (0, 454, 2) := (by decide +kernel : rt_ct 462 850 = some (0, 454, 2))
set_option maxRecDepth 100000 in
theorem wc_462_886 : rx_ct (rt_P sc fm) 462 886 = some (0, 461, 4) := (by decide +kernel : rt_ct 462 886 = some (0, 461, 4))
set_option maxRecDepth 100000 in
theorem wf_462_185 : rx_ft (rt_P sc fm) 462 185 = some (15, 49) := (by decide +kernel : rt_ft 462 185 = some (15, 49))
set_option maxRecDepth 100000 in
theorem wf_462_194 : rx_ft (rt_P sc fm) 462 194 = some (15, 52) := (by decide +kernel : rt_ft 462 194 = some (15, 52))
set_option maxRecDepth 100000 in
theorem wf_462_197 : rx_ft (rt_P sc fm) 462 197 = some (15, 53) := (by decide +kernel : rt_ft 462 197 = some (15, 53))
set_option maxRecDepth 100000 in
theorem wf_462_200 : rx_ft (rt_P sc fm) 462 200 = some (15, 54) := (by decide +kernel : rt_ft 462 200 = some (15, 54))
set_option maxRecDepth 100000 in
theorem wf_462_243 : rx_ft (rt_P sc fm) 462 243 = some (15, 70) := (by decide +kernel : rt_ft 462 243 = some (15, 70))
set_option maxRecDepth 100000 in
theorem wf_462_274 : rx_ft (rt_P sc fm) 462 274 = some (15, 89) := (by decide +kernel : rt_ft 462 274 = some (15, 89))
set_option maxRecDepth 100000 in
theorem wf_462_292 : rx_ft (rt_P sc fm) 462 292 = some (15, 97) := (by decide +kernel : rt_ft 462 292 = some (15, 97))
set_option maxRecDepth 100000 in
theorem wf_462_296 : rx_ft (rt_P sc fm) 462 296 = some (15, 98) := (by decide +kernel : rt_ft 462 296 = some (15, 98))
set_option maxRecDepth 100000 in
theorem wf_462_302 : rx_ft (rt_P sc fm) 462 302 = some (15, 100) := (by decide +kernel : rt_ft 462 302 = some (15, 100))
theorem wi_462_0 : ri (rt_P sc fm) 462 0 (.bipush 40) (2) := ri_of (by decide +kernel) rfl
theorem wi_462_10 : ri (rt_P sc fm) 462 10 (.iadd) (11) := ri_of (by decide +kernel) rfl
theorem wi_462_100 : ri (rt_P sc fm) 462 100 (.if_icmp .ne 32) (103) := ri_of (by decide +kernel) rfl
theorem wi_462_103 : ri (rt_P sc fm) 462 103 (.aload_n 0) (104) := ri_of (by decide +kernel) rfl
theorem wi_462_104 : ri (rt_P sc fm) 462 104 (.getfield 274) (107) := ri_of (by decide +kernel) rfl
theorem wi_462_107 : ri (rt_P sc fm) 462 107 (.iload 6) (109) := ri_of (by decide +kernel) rfl
theorem wi_462_109 : ri (rt_P sc fm) 462 109 (.aload_n 0) (110) := ri_of (by decide +kernel) rfl
theorem wi_462_11 : ri (rt_P sc fm) 462 11 (.istore 5) (13) := ri_of (by decide +kernel) rfl
theorem wi_462_110 : ri (rt_P sc fm) 462 110 (.aload_n 0) (111) := ri_of (by decide +kernel) rfl
theorem wi_462_111 : ri (rt_P sc fm) 462 111 (.getfield 292) (114) := ri_of (by decide +kernel) rfl
theorem wi_462_114 : ri (rt_P sc fm) 462 114 (.aload_n 0) (115) := ri_of (by decide +kernel) rfl
theorem wi_462_115 : ri (rt_P sc fm) 462 115 (.getfield 274) (118) := ri_of (by decide +kernel) rfl
theorem wi_462_118 : ri (rt_P sc fm) 462 118 (.iload 6) (120) := ri_of (by decide +kernel) rfl
theorem wi_462_120 : ri (rt_P sc fm) 462 120 (.iaload) (121) := ri_of (by decide +kernel) rfl
theorem wi_462_121 : ri (rt_P sc fm) 462 121 (.aload_n 0) (122) := ri_of (by decide +kernel) rfl
theorem wi_462_122 : ri (rt_P sc fm) 462 122 (.getfield 197) (125) := ri_of (by decide +kernel) rfl
theorem wi_462_125 : ri (rt_P sc fm) 462 125 (.iload 5) (127) := ri_of (by decide +kernel) rfl
theorem wi_462_127 : ri (rt_P sc fm) 462 127 (.iaload) (128) := ri_of (by decide +kernel) rfl
theorem wi_462_128 : ri (rt_P sc fm) 462 128 (.invokevirtual 730) (131) := ri_of (by decide +kernel) rfl
theorem wi_462_13 : ri (rt_P sc fm) 462 13 (.iconst 0) (14) := ri_of (by decide +kernel) rfl
theorem wi_462_131 : ri (rt_P sc fm) 462 131 (.iastore) (132) := ri_of (by decide +kernel) rfl
theorem wi_462_132 : ri (rt_P sc fm) 462 132 (.aload_n 0) (133) := ri_of (by decide +kernel) rfl
theorem wi_462_133 : ri (rt_P sc fm) 462 133 (.iload_n 1) (134) := ri_of (by decide +kernel) rfl
theorem wi_462_134 : ri (rt_P sc fm) 462 134 (.iload 4) (136) := ri_of (by decide +kernel) rfl
theorem wi_462_136 : ri (rt_P sc fm) 462 136 (.ifCond .eq 13) (139) := ri_of (by decide +kernel) rfl
theorem wi_462_139 : ri (rt_P sc fm) 462 139 (.aload_n 0) (140) := ri_of (by decide +kernel) rfl
theorem wi_462_14 : ri (rt_P sc fm) 462 14 (.istore 6) (16) := ri_of (by decide +kernel) rfl
theorem wi_462_140 : ri (rt_P sc fm) 462 140 (.getfield 200) (143) := ri_of (by decide +kernel) rfl
theorem wi_462_143 : ri (rt_P sc fm) 462 143 (.iload 5) (145) := ri_of (by decide +kernel) rfl
theorem wi_462_145 : ri (rt_P sc fm) 462 145 (.iaload) (146) := ri_of (by decide +kernel) rfl
theorem wi_462_146 : ri (rt_P sc fm) 462 146 (.goto 11) (149) := ri_of (by decide +kernel) rfl
theorem wi_462_149 : ri (rt_P sc fm) 462 149 (.aload_n 0) (150) := ri_of (by decide +kernel) rfl
theorem wi_462_150 : ri (rt_P sc fm) 462 150 (.getfield 296) (153) := ri_of (by decide +kernel) rfl
theorem wi_462_153 : ri (rt_P sc fm) 462 153 (.iload_n 2) (154) := ri_of (by decide +kernel) rfl
theorem wi_462_154 : ri (rt_P sc fm) 462 154 (.iaload) (155) := ri_of (by decide +kernel) rfl
theorem wi_462_155 : ri (rt_P sc fm) 462 155 (.iconst 1) (156) := ri_of (by decide +kernel) rfl
theorem wi_462_156 : ri (rt_P sc fm) 462 156 (.iadd) (157) := ri_of (by decide +kernel) rfl
theorem wi_462_157 : ri (rt_P sc fm) 462 157 (.iload_n 2) (158) := ri_of (by decide +kernel) rfl
theorem wi_462_158 : ri (rt_P sc fm) 462 158 (.iload_n 3) (159) := ri_of (by decide +kernel) rfl
theorem wi_462_159 : ri (rt_P sc fm) 462 159 (.invokevirtual 886) (162) := ri_of (by decide +kernel) rfl
theorem wi_462_16 : ri (rt_P sc fm) 462 16 (.iload 6) (18) := ri_of (by decide +kernel) rfl
theorem wi_462_162 : ri (rt_P sc fm) 462 162 (.return_) (163) := ri_of (by decide +kernel) rfl
theorem wi_462_18 : ri (rt_P sc fm) 462 18 (.bipush 16) (20) := ri_of (by decide +kernel) rfl
theorem wi_462_2 : ri (rt_P sc fm) 462 2 (.iload_n 1) (3) := ri_of (by decide +kernel) rfl
theorem wi_462_20 : ri (rt_P sc fm) 462 20 (.if_icmp .ge 28) (23) := ri_of (by decide +kernel) rfl
theorem wi_462_23 : ri (rt_P sc fm) 462 23 (.aload_n 0) (24) := ri_of (by decide +kernel) rfl
theorem wi_462_24 : ri (rt_P sc fm) 462 24 (.getfield 274) (27) := ri_of (by decide +kernel) rfl
theorem wi_462_27 : ri (rt_P sc fm) 462 27 (.iload 6) (29) := ri_of (by decide +kernel) rfl
theorem wi_462_29 : ri (rt_P sc fm) 462 29 (.aload_n 0) (30) := ri_of (by decide +kernel) rfl
theorem wi_462_3 : ri (rt_P sc fm) 462 3 (.imul) (4) := ri_of (by decide +kernel) rfl
theorem wi_462_30 : ri (rt_P sc fm) 462 30 (.getfield 302) (33) := ri_of (by decide +kernel) rfl
theorem wi_462_33 : ri (rt_P sc fm) 462 33 (.bipush 16) (35) := ri_of (by decide +kernel) rfl
theorem wi_462_35 : ri (rt_P sc fm) 462 35 (.iload_n 2) (36) := ri_of (by decide +kernel) rfl
theorem wi_462_36 : ri (rt_P sc fm) 462 36 (.imul) (37) := ri_of (by decide +kernel) rfl
theorem wi_462_37 : ri (rt_P sc fm) 462 37 (.iload 6) (39) := ri_of (by decide +kernel) rfl
theorem wi_462_39 : ri (rt_P sc fm) 462 39 (.iadd) (40) := ri_of (by decide +kernel) rfl
theorem wi_462_4 : ri (rt_P sc fm) 462 4 (.aload_n 0) (5) := ri_of (by decide +kernel) rfl
theorem wi_462_40 : ri (rt_P sc fm) 462 40 (.iaload) (41) := ri_of (by decide +kernel) rfl
theorem wi_462_41 : ri (rt_P sc fm) 462 41 (.iastore) (42) := ri_of (by decide +kernel) rfl
theorem wi_462_42 : ri (rt_P sc fm) 462 42 (.iinc 6 1) (45) := ri_of (by decide +kernel) rfl
theorem wi_462_45 : ri (rt_P sc fm) 462 45 (.goto (-29)) (48) := ri_of (by decide +kernel) rfl
theorem wi_462_48 : ri (rt_P sc fm) 462 48 (.aload_n 0) (49) := ri_of (by decide +kernel) rfl
theorem wi_462_49 : ri (rt_P sc fm) 462 49 (.iload 5) (51) := ri_of (by decide +kernel) rfl
theorem wi_462_5 : ri (rt_P sc fm) 462 5 (.getfield 296) (8) := ri_of (by decide +kernel) rfl
theorem wi_462_51 : ri (rt_P sc fm) 462 51 (.aload_n 0) (52) := ri_of (by decide +kernel) rfl
theorem wi_462_52 : ri (rt_P sc fm) 462 52 (.getfield 292) (55) := ri_of (by decide +kernel) rfl
theorem wi_462_55 : ri (rt_P sc fm) 462 55 (.invokevirtual 850) (58) := ri_of (by decide +kernel) rfl
theorem wi_462_58 : ri (rt_P sc fm) 462 58 (.bipush 8) (60) := ri_of (by decide +kernel) rfl
theorem wi_462_60 : ri (rt_P sc fm) 462 60 (.aload_n 0) (61) := ri_of (by decide +kernel) rfl
theorem wi_462_61 : ri (rt_P sc fm) 462 61 (.getfield 243) (64) := ri_of (by decide +kernel) rfl
theorem wi_462_64 : ri (rt_P sc fm) 462 64 (.iload 5) (66) := ri_of (by decide +kernel) rfl
theorem wi_462_66 : ri (rt_P sc fm) 462 66 (.iaload) (67) := ri_of (by decide +kernel) rfl
theorem wi_462_67 : ri (rt_P sc fm) 462 67 (.iadd) (68) := ri_of (by decide +kernel) rfl
theorem wi_462_68 : ri (rt_P sc fm) 462 68 (.iconst 1) (69) := ri_of (by decide +kernel) rfl
theorem wi_462_69 : ri (rt_P sc fm) 462 69 (.isub) (70) := ri_of (by decide +kernel) rfl
theorem wi_462_70 : ri (rt_P sc fm) 462 70 (.istore 6) (72) := ri_of (by decide +kernel) rfl
theorem wi_462_72 : ri (rt_P sc fm) 462 72 (.iload 4) (74) := ri_of (by decide +kernel) rfl
theorem wi_462_74 : ri (rt_P sc fm) 462 74 (.ifCond .eq 58) (77) := ri_of (by decide +kernel) rfl
theorem wi_462_77 : ri (rt_P sc fm) 462 77 (.aload_n 0) (78) := ri_of (by decide +kernel) rfl
theorem wi_462_78 : ri (rt_P sc fm) 462 78 (.getfield 185) (81) := ri_of (by decide +kernel) rfl
theorem wi_462_8 : ri (rt_P sc fm) 462 8 (.iload_n 2) (9) := ri_of (by decide +kernel) rfl
theorem wi_462_81 : ri (rt_P sc fm) 462 81 (.iload 5) (83) := ri_of (by decide +kernel) rfl
theorem wi_462_83 : ri (rt_P sc fm) 462 83 (.iaload) (84) := ri_of (by decide +kernel) rfl
theorem wi_462_84 : ri (rt_P sc fm) 462 84 (.bipush 29) (86) := ri_of (by decide +kernel) rfl
theorem wi_462_86 : ri (rt_P sc fm) 462 86 (.if_icmp .ne 46) (89) := ri_of (by decide +kernel) rfl
theorem wi_462_89 : ri (rt_P sc fm) 462 89 (.aload_n 0) (90) := ri_of (by decide +kernel) rfl
theorem wi_462_9 : ri (rt_P sc fm) 462 9 (.iaload) (10) := ri_of (by decide +kernel) rfl
theorem wi_462_90 : ri (rt_P sc fm) 462 90 (.getfield 194) (93) := ri_of (by decide +kernel) rfl
theorem wi_462_93 : ri (rt_P sc fm) 462 93 (.iload 5) (95) := ri_of (by decide +kernel) rfl
theorem wi_462_95 : ri (rt_P sc fm) 462 95 (.iaload) (96) := ri_of (by decide +kernel) rfl
theorem wi_462_96 : ri (rt_P sc fm) 462 96 (.aload_n 0) (97) := ri_of (by decide +kernel) rfl
theorem wi_462_97 : ri (rt_P sc fm) 462 97 (.getfield 292) (100) := ri_of (by decide +kernel) rfl
set_option maxRecDepth 100000 in
theorem wm_461 : rx_ml (rt_P sc fm) 461 = 10 := (by decide +kernel : rt_ml 461 = 10)
set_option maxRecDepth 100000 in
theorem wr_462 : rx_rt (rt_P sc fm) 462 = none := (by decide +kernel : rt_rt 462 = none)
/-- MarkHouseModel.goes(IIIZ)V -/
def d_462 (n : Nat) (a1 : Int32) (a2 : Int32) (a3 : Int32) (a4 : Int32) (c : cS) : Option (cS) :=
  if ib a2 400 then
  lt (((40 * a1) + (c.1 246 (ix a2))) : Int32) (fun v3 =>
  Option.bind (whl (R := (cS)) (fun s6 : Int32 × cS =>
    if 16 ≤ s6.1 then
      some (.inr s6.2)
    else
      if ib ((16 * a2) + s6.1) 6400 then
      if ib s6.1 16 then
      lt (pI s6.2 240 (ix s6.1) (s6.2.1 248 (ix ((16 * a2) + s6.1)))) (fun c9 =>
      lt (s6.1 + 1 : Int32) (fun v12 =>
      some (.inl (v12, c9))))
      else none
      else none) n (0, c))
  (fun x14 : cS =>
    Option.bind (d_454 n v3 (x14.1 174 97) x14) (fun r15 =>
    if ib v3 3840 then
    lt (((8 + (r15.1 230 (ix v3))) - 1) : Int32) (fun v18 =>
    jn (fun p20 : cS =>
      jn (fun p21 : Int32 =>
        Option.bind (d_461 n a1 p21 a2 a3 p20) (fun r22 =>
        some r22))
      (fun j157 =>
      if a4 = 0 then
        if ib a2 400 then
        j157 ((p20.1 246 (ix a2)) + 1)
        else none
      else
        if ib v3 3840 then
        j157 (p20.1 216 (ix v3))
        else none))
    (fun j132 =>
    if a4 = 0 then
      j132 r15
    else
      if ib v3 3840 then
      if (r15.1 211 (ix v3)) = 29 then
        if ib v3 3840 then
        if (r15.1 214 (ix v3)) = (r15.1 174 97) then
          if ib v18 16 then
          if ib v3 3840 then
          Option.bind (d_391 n (r15.1 174 97) (r15.1 240 (ix v18)) (r15.1 215 (ix v3)) r15) (fun v29 =>
          if ib v18 16 then
          lt (pI r15 240 (ix v18) v29) (fun c31 =>
          j132 c31)
          else none)
          else none
          else none
        else
          j132 r15
        else none
      else
        j132 r15
      else none))
    else none)))
  else none
set_option maxRecDepth 100000 in
set_option maxHeartbeats 4000000 in
theorem sp_462 {F Lo n : Nat} {a1 : Int32} {a2 : Int32} {a3 : Int32} {a4 : Int32} {c y : cS} {w : cW} {K : cS → Prop} {Q : ((Option Value) ⊕ String) → List va_E → Prop} (hw : rOK fm w) (hF : 3 ≤ F) (hLo : 75 ≤ Lo)  (h : wp (d_462 n a1 a2 a3 a4 c) K) (hQ : ∀ r, K r → Q (.inl none) (hq false r y w)) : rs (rt_P sc fm) 462 F Lo 0 [(0, .ref 174), (1, .int a1), (2, .int a2), (3, .int a3), (4, .int a4)] [] (hq false c y w) Q := by
  unfold d_462 at h
  obtain ⟨lv, elv⟩ : ∃ lv : rx_L, lv = [(0, .ref 174), (1, .int a1), (2, .int a2), (3, .int a3), (4, .int a4)] := ⟨_, rfl⟩
  rw [← elv]
  have l0 : rx_ld lv 0 = some (.ref 174) := by rw [elv]; rfl
  have l1 : rx_ld lv 1 = some (.int a1) := by rw [elv]; rfl
  have l2 : rx_ld lv 2 = some (.int a2) := by rw [elv]; rfl
  have l3 : rx_ld lv 3 = some (.int a3) := by rw [elv]; rfl
  have l4 : rx_ld lv 4 = some (.int a4) := by rw [elv]; rfl
  refine rs_pure wi_462_0 rfl ?_
  refine rs_topi (v := 40) (by decide) ?_
  refine rs_ildn wi_462_2 l1 ?_
  refine rs_pure wi_462_3 rfl ?_
  refine rs_aldn wi_462_4 l0 ?_
  refine dq_gr wi_462_5 wf_462_296 tf_174_98 ?_
  refine rs_ildn wi_462_8 l2 ?_
  obtain ⟨g1, h⟩ := wp_gd h
  refine dq_iald wi_462_9 t_246 g1 ?_
  refine rs_pure wi_462_10 rfl ?_
  obtain ⟨v3, e4, h⟩ := wp_lt h
  refine rs_topi e4 ?_
  refine dl_ist wi_462_11 rfl (fun lv l5 t2 => ?_)
  have l0 := t2 _ _ (by decide) (Or.inl rfl) l0
  have l1 := t2 _ _ (by decide) (Or.inl rfl) l1
  have l2 := t2 _ _ (by decide) (Or.inl rfl) l2
  have l3 := t2 _ _ (by decide) (Or.inl rfl) l3
  have l4 := t2 _ _ (by decide) (Or.inl rfl) l4
  refine rs_pure wi_462_13 rfl ?_
  refine rs_topi (v := 0) (by decide) ?_
  refine dl_ist wi_462_14 rfl (fun lv l6 t5 => ?_)
  have l0 := t5 _ _ (by decide) (Or.inl rfl) l0
  have l1 := t5 _ _ (by decide) (Or.inl rfl) l1
  have l2 := t5 _ _ (by decide) (Or.inl rfl) l2
  have l3 := t5 _ _ (by decide) (Or.inl rfl) l3
  have l4 := t5 _ _ (by decide) (Or.inl rfl) l4
  have l5 := t5 _ _ (by decide) (Or.inl rfl) l5
  refine whl_ex (A := fun s6 : Int32 × cS => ∀ lv, rx_ld lv 0 = some (.ref 174) → rx_ld lv 1 = some (.int a1) → rx_ld lv 2 = some (.int a2) → rx_ld lv 3 = some (.int a3) → rx_ld lv 4 = some (.int a4) → rx_ld lv 5 = some (.int v3) → rx_ld lv 6 = some (.int s6.1) → rs (rt_P sc fm) 462 F Lo 16 lv [] (hq false s6.2 y w) Q) (B := (fun x14 : cS => ∀ lv, rx_ld lv 0 = some (.ref 174) → rx_ld lv 1 = some (.int a1) → rx_ld lv 2 = some (.int a2) → rx_ld lv 3 = some (.int a3) → rx_ld lv 4 = some (.int a4) → rx_ld lv 5 = some (.int v3) → rs (rt_P sc fm) 462 F Lo 48 lv [] (hq false x14 y w) Q)) ?_ ?_ _ _ (wp_bind h) _ l0 l1 l2 l3 l4 l5 l6
  · intro s6 h lv l0 l1 l2 l3 l4 l5 l6
    refine rs_ild wi_462_16 l6 ?_
    refine rs_pure wi_462_18 rfl ?_
    refine rs_topi (v := 16) (by decide) ?_
    refine rs_icge (tg := 48) wi_462_20 ⟨by decide, by decide⟩ (fun q => ?_) (fun q => ?_)
    ·
      have h := wp_pos h q
      exact h _ l0 l1 l2 l3 l4 l5
    ·
      have h := wp_neg h q
      refine rs_aldn wi_462_23 l0 ?_
      refine dq_gr wi_462_24 wf_462_274 tf_174_89 ?_
      refine rs_ild wi_462_27 l6 ?_
      refine rs_aldn wi_462_29 l0 ?_
      refine dq_gr wi_462_30 wf_462_302 tf_174_100 ?_
      refine rs_pure wi_462_33 rfl ?_
      refine rs_topi (v := 16) (by decide) ?_
      refine rs_ildn wi_462_35 l2 ?_
      refine rs_pure wi_462_36 rfl ?_
      refine rs_ild wi_462_37 l6 ?_
      refine rs_pure wi_462_39 rfl ?_
      obtain ⟨g7, h⟩ := wp_gd h
      refine dq_iald wi_462_40 t_248 g7 ?_
      obtain ⟨g8, h⟩ := wp_gd h
      obtain ⟨c9, e10, h⟩ := wp_lt h
      refine dq_iast wi_462_41 t_240 g8 e10 ?_
      obtain ⟨v12, e13, h⟩ := wp_lt h
      refine dl_inc wi_462_42 l6 rfl e13 (fun lv l6 t11 => ?_)
      have l0 := t11 _ _ (by decide) (Or.inl rfl) l0
      have l1 := t11 _ _ (by decide) (Or.inl rfl) l1
      have l2 := t11 _ _ (by decide) (Or.inl rfl) l2
      have l3 := t11 _ _ (by decide) (Or.inl rfl) l3
      have l4 := t11 _ _ (by decide) (Or.inl rfl) l4
      have l5 := t11 _ _ (by decide) (Or.inl rfl) l5
      refine rs_goto (tg := 16) wi_462_45 ⟨by decide, by decide⟩ ?_
      exact h _ l0 l1 l2 l3 l4 l5 l6
  ·
    intro x14 h lv l0 l1 l2 l3 l4 l5
    refine rs_aldn wi_462_48 l0 ?_
    refine rs_ild wi_462_49 l5 ?_
    refine rs_aldn wi_462_51 l0 ?_
    refine dq_gi wi_462_52 wf_462_292 tf_174_97 ?_
    refine rs_V wi_462_55 wc_462_850 rfl (dq_isa tf_174_0 wa_15_454) (Nat.le_trans (by decide) hF) (ml_le wm_454 (Nat.le_trans (by decide) hLo)) rfl (sp_454 hw (Nat.le_trans (by decide : 2 ≤ 3 - 1) (Nat.sub_le_sub_right hF 1)) (ml_sub wm_454 (Nat.le_trans (by decide : 46 ≤ 75 - 24) (Nat.sub_le_sub_right hLo 24))) (wp_bind h) (fun r15 h => rs_back0 ?_))
    refine rs_pure wi_462_58 rfl ?_
    refine rs_topi (v := 8) (by decide) ?_
    refine rs_aldn wi_462_60 l0 ?_
    refine dq_gr wi_462_61 wf_462_243 tf_174_70 ?_
    refine rs_ild wi_462_64 l5 ?_
    obtain ⟨g16, h⟩ := wp_gd h
    refine dq_iald wi_462_66 t_230 g16 ?_
    refine rs_pure wi_462_67 rfl ?_
    refine rs_pure wi_462_68 rfl ?_
    refine rs_topi (v := 1) (by decide) ?_
    refine rs_pure wi_462_69 rfl ?_
    obtain ⟨v18, e19, h⟩ := wp_lt h
    refine rs_topi e19 ?_
    refine dl_ist wi_462_70 rfl (fun lv l6 t17 => ?_)
    have l0 := t17 _ _ (by decide) (Or.inl rfl) l0
    have l1 := t17 _ _ (by decide) (Or.inl rfl) l1
    have l2 := t17 _ _ (by decide) (Or.inl rfl) l2
    have l3 := t17 _ _ (by decide) (Or.inl rfl) l3
    have l4 := t17 _ _ (by decide) (Or.inl rfl) l4
    have l5 := t17 _ _ (by decide) (Or.inl rfl) l5
    refine rs_ild wi_462_72 l4 ?_
    refine wp_jn (B := fun p20 : cS => ∀ lv, rx_ld lv 0 = some (.ref 174) → rx_ld lv 1 = some (.int a1) → rx_ld lv 2 = some (.int a2) → rx_ld lv 3 = some (.int a3) → rx_ld lv 4 = some (.int a4) → rx_ld lv 5 = some (.int v3) → rs (rt_P sc fm) 462 F Lo 132 lv [] (hq false p20 y w) Q) h (fun p20 h lv l0 l1 l2 l3 l4 l5 => ?_) (fun j132 hj132 h => ?_)
    ·
      refine rs_aldn wi_462_132 l0 ?_
      refine rs_ildn wi_462_133 l1 ?_
      refine rs_ild wi_462_134 l4 ?_
      refine wp_jn (B := fun p21 : Int32 => ∀ lv, rx_ld lv 2 = some (.int a2) → rx_ld lv 3 = some (.int a3) → rs (rt_P sc fm) 462 F Lo 157 lv [.int p21, .int a1, .ref 174] (hq false p20 y w) Q) h (fun p21 h lv l2 l3 => ?_) (fun j157 hj157 h => ?_)
      ·
        refine rs_ildn wi_462_157 l2 ?_
        refine rs_ildn wi_462_158 l3 ?_
        refine rs_V wi_462_159 wc_462_886 rfl (dq_isa tf_174_0 wa_15_461) (Nat.le_trans (by decide) hF) (ml_le wm_461 (Nat.le_trans (by decide) hLo)) rfl (sp_461 hw (Nat.le_trans (by decide : 2 ≤ 3 - 1) (Nat.sub_le_sub_right hF 1)) (ml_sub wm_461 (Nat.le_trans (by decide : 46 ≤ 75 - 29) (Nat.sub_le_sub_right hLo 29))) (wp_bind h) (fun r22 h => rs_back0 ?_))
        exact rs_vret wi_462_162 wr_462 (hQ r22 h)
      refine rs_ifeq (tg := 149) wi_462_136 ⟨by decide, by decide⟩ (fun q => ?_) (fun q => ?_)
      ·
        have h := wp_pos h q
        refine rs_aldn wi_462_149 l0 ?_
        refine dq_gr wi_462_150 wf_462_296 tf_174_98 ?_
        refine rs_ildn wi_462_153 l2 ?_
        obtain ⟨g23, h⟩ := wp_gd h
        refine dq_iald wi_462_154 t_246 g23 ?_
        refine rs_pure wi_462_155 rfl ?_
        refine rs_topi (v := 1) (by decide) ?_
        refine rs_pure wi_462_156 rfl ?_
        exact hj157 _ h _ l2 l3
      ·
        have h := wp_neg h q
        refine rs_aldn wi_462_139 l0 ?_
        refine dq_gr wi_462_140 wf_462_200 tf_174_54 ?_
        refine rs_ild wi_462_143 l5 ?_
        obtain ⟨g24, h⟩ := wp_gd h
        refine dq_iald wi_462_145 t_216 g24 ?_
        refine rs_goto (tg := 157) wi_462_146 ⟨by decide, by decide⟩ ?_
        exact hj157 _ h _ l2 l3
    refine rs_ifeq (tg := 132) wi_462_74 ⟨by decide, by decide⟩ (fun q => ?_) (fun q => ?_)
    ·
      have h := wp_pos h q
      exact hj132 _ h _ l0 l1 l2 l3 l4 l5
    ·
      have h := wp_neg h q
      refine rs_aldn wi_462_77 l0 ?_
      refine dq_gr wi_462_78 wf_462_185 tf_174_49 ?_
      refine rs_ild wi_462_81 l5 ?_
      obtain ⟨g25, h⟩ := wp_gd h
      refine dq_iald wi_462_83 t_211 g25 ?_
      refine rs_pure wi_462_84 rfl ?_
      refine rs_topi (v := 29) (by decide) ?_
      refine rs_icne (tg := 132) wi_462_86 ⟨by decide, by decide⟩ (fun q => ?_) (fun q => ?_)
      ·
        have h := wp_neg h q
        exact hj132 _ h _ l0 l1 l2 l3 l4 l5
      ·
        have h := wp_pos h q
        refine rs_aldn wi_462_89 l0 ?_
        refine dq_gr wi_462_90 wf_462_194 tf_174_52 ?_
        refine rs_ild wi_462_93 l5 ?_
        obtain ⟨g26, h⟩ := wp_gd h
        refine dq_iald wi_462_95 t_214 g26 ?_
        refine rs_aldn wi_462_96 l0 ?_
        refine dq_gi wi_462_97 wf_462_292 tf_174_97 ?_
        refine rs_icne (tg := 132) wi_462_100 ⟨by decide, by decide⟩ (fun q => ?_) (fun q => ?_)
        ·
          have h := wp_neg h q
          exact hj132 _ h _ l0 l1 l2 l3 l4 l5
        ·
          have h := wp_pos h q
          refine rs_aldn wi_462_103 l0 ?_
          refine dq_gr wi_462_104 wf_462_274 tf_174_89 ?_
          refine rs_ild wi_462_107 l6 ?_
          refine rs_aldn wi_462_109 l0 ?_
          refine rs_aldn wi_462_110 l0 ?_
          refine dq_gi wi_462_111 wf_462_292 tf_174_97 ?_
          refine rs_aldn wi_462_114 l0 ?_
          refine dq_gr wi_462_115 wf_462_274 tf_174_89 ?_
          refine rs_ild wi_462_118 l6 ?_
          obtain ⟨g27, h⟩ := wp_gd h
          refine dq_iald wi_462_120 t_240 g27 ?_
          refine rs_aldn wi_462_121 l0 ?_
          refine dq_gr wi_462_122 wf_462_197 tf_174_53 ?_
          refine rs_ild wi_462_125 l5 ?_
          obtain ⟨g28, h⟩ := wp_gd h
          refine dq_iald wi_462_127 t_215 g28 ?_
          refine rs_V wi_462_128 wc_462_730 rfl (dq_isa tf_174_0 wa_15_391) (Nat.le_trans (by decide) hF) (ml_le wm_391 (Nat.le_trans (by decide) hLo)) rfl (sp_391 hw (Nat.le_trans (by decide : 1 ≤ 3 - 1) (Nat.sub_le_sub_right hF 1)) (ml_sub wm_391 (Nat.le_trans (by decide : 23 ≤ 75 - 23) (Nat.sub_le_sub_right hLo 23))) (wp_bind h) (fun v29 h => rs_back1 ?_))
          obtain ⟨g30, h⟩ := wp_gd h
          obtain ⟨c31, e32, h⟩ := wp_lt h
          refine dq_iast wi_462_131 t_240 g30 e32 ?_
          exact hj132 _ h _ l0 l1 l2 l3 l4 l5
theorem t_249 : ta false 249 0 400 := ⟨rfl, by decide, by decide⟩
theorem tf_174_103 : fo false 174 15 103 (.ref 249) := ⟨_, rfl, rfl, by decide, by decide⟩
set_option maxRecDepth 100000 in
theorem wa_15_462 : rz_cn 15 (rx_yn (rt_P sc fm) 462).cls = true := (by decide +kernel : rz_cn 15 (rt_yn 462).cls = true)
set_option maxRecDepth 100000 in
theorem wc_129_844 : rx_ct (rt_P sc fm) 129 844 = some (0, 452, 2) := (by decide +kernel : rt_ct 129 844 = some (0, 452, 2))
set_option maxRecDepth 100000 in
theorem wc_129_856 : rx_ct (rt_P sc fm) 129 856 = some (0, 450, 1) := (by decide +kernel : rt_ct 129 856 = some (0, 450, 1))
set_option maxRecDepth 100000 in
theorem wc_129_886 : rx_ct (rt_P sc fm) 129 886 = some (0, 461, 4) := (by decide +kernel : rt_ct 129 886 = some (0, 461, 4))
set_option maxRecDepth 100000 in
theorem wc_129_890 : rx_ct (rt_P sc fm) 129 890 = some (0, 462, 4) := (by decide +kernel : rt_ct 129 890 = some (0, 462, 4))
set_option maxRecDepth 100000 in
theorem wf_129_185 : rx_ft (rt_P sc fm) 129 185 = some (15, 49) := (by decide +kernel : rt_ft 129 185 = some (15, 49))
set_option maxRecDepth 100000 in
theorem wf_129_200 : rx_ft (rt_P sc fm) 129 200 = some (15, 54) := (by decide +kernel : rt_ft 129 200 = some (15, 54))
set_option maxRecDepth 100000 in
theorem wf_129_277 : rx_ft (rt_P sc fm) 129 277 = some (15, 92) := (by decide +kernel : rt_ft 129 277 = some (15, 92))
set_option maxRecDepth 100000 in
theorem wf_129_292 : rx_ft (rt_P sc fm) 129 292 = some (15, 97) := (by decide +kernel : rt_ft 129 292 = some (15, 97))
set_option maxRecDepth 100000 in
theorem wf_129_296 : rx_ft (rt_P sc fm) 129 296 = some (15, 98) := (by decide +kernel : rt_ft 129 296 = some (15, 98))
set_option maxRecDepth 100000 in
theorem wf_129_299 : rx_ft (rt_P sc fm) 129 299 = some (15, 99) := (by decide +kernel : rt_ft 129 299 = some (15, 99))
set_option maxRecDepth 100000 in
theorem wf_129_305 : rx_ft (rt_P sc fm) 129 305 = some (15, 103) := (by decide +kernel : rt_ft 129 305 = some (15, 103))
set_option maxRecDepth 100000 in
theorem wf_129_859 : rx_ft (rt_P sc fm) 129 859 = some (15, 91) := (by decide +kernel : rt_ft 129 859 = some (15, 91))
set_option maxRecDepth 100000 in
theorem wf_129_874 : rx_ft (rt_P sc fm) 129 874 = some (15, 102) := (by decide +kernel : rt_ft 129 874 = some (15, 102))
set_option maxRecDepth 100000 in
theorem wf_129_877 : rx_ft (rt_P sc fm) 129 877 = some (15, 101) := (by decide +kernel : rt_ft 129 877 = some (15, 101))
set_option maxRecDepth 100000 in
theorem wf_129_880 : rx_ft (rt_P sc fm) 129 880 = some (15, 104) := (by decide +kernel : rt_ft 129 880 = some (15, 104))
set_option maxRecDepth 100000 in
theorem wf_129_883 : rx_ft (rt_P sc fm) 129 883 = some (15, 105) := (by decide +kernel : rt_ft 129 883 = some (15, 105))
theorem wi_129_0 : ri (rt_P sc fm) 129 0 (.aload_n 0) (1) := ri_of (by decide +kernel) rfl
theorem wi_129_1 : ri (rt_P sc fm) 129 1 (.iconst 0) (2) := ri_of (by decide +kernel) rfl
theorem wi_129_100 : ri (rt_P sc fm) 129 100 (.iload_n 2) (101) := ri_of (by decide +kernel) rfl
theorem wi_129_101 : ri (rt_P sc fm) 129 101 (.imul) (102) := ri_of (by decide +kernel) rfl
theorem wi_129_102 : ri (rt_P sc fm) 129 102 (.aload_n 0) (103) := ri_of (by decide +kernel) rfl
theorem wi_129_103 : ri (rt_P sc fm) 129 103 (.getfield 296) (106) := ri_of (by decide +kernel) rfl
theorem wi_129_106 : ri (rt_P sc fm) 129 106 (.iload 4) (108) := ri_of (by decide +kernel) rfl
theorem wi_129_108 : ri (rt_P sc fm) 129 108 (.iaload) (109) := ri_of (by decide +kernel) rfl
theorem wi_129_109 : ri (rt_P sc fm) 129 109 (.iadd) (110) := ri_of (by decide +kernel) rfl
theorem wi_129_110 : ri (rt_P sc fm) 129 110 (.istore 5) (112) := ri_of (by decide +kernel) rfl
theorem wi_129_112 : ri (rt_P sc fm) 129 112 (.aload_n 0) (113) := ri_of (by decide +kernel) rfl
theorem wi_129_113 : ri (rt_P sc fm) 129 113 (.getfield 185) (116) := ri_of (by decide +kernel) rfl
theorem wi_129_116 : ri (rt_P sc fm) 129 116 (.iload 5) (118) := ri_of (by decide +kernel) rfl
theorem wi_129_118 : ri (rt_P sc fm) 129 118 (.iaload) (119) := ri_of (by decide +kernel) rfl
theorem wi_129_119 : ri (rt_P sc fm) 129 119 (.bipush 21) (121) := ri_of (by decide +kernel) rfl
theorem wi_129_12 : ri (rt_P sc fm) 129 12 (.iload_n 1) (13) := ri_of (by decide +kernel) rfl
theorem wi_129_121 : ri (rt_P sc fm) 129 121 (.if_icmp .eq 19) (124) := ri_of (by decide +kernel) rfl
theorem wi_129_124 : ri (rt_P sc fm) 129 124 (.aload_n 0) (125) := ri_of (by decide +kernel) rfl
theorem wi_129_125 : ri (rt_P sc fm) 129 125 (.getfield 185) (128) := ri_of (by decide +kernel) rfl
theorem wi_129_128 : ri (rt_P sc fm) 129 128 (.iload 5) (130) := ri_of (by decide +kernel) rfl
theorem wi_129_13 : ri (rt_P sc fm) 129 13 (.ifCond .lt 11) (16) := ri_of (by decide +kernel) rfl
theorem wi_129_130 : ri (rt_P sc fm) 129 130 (.iaload) (131) := ri_of (by decide +kernel) rfl
theorem wi_129_131 : ri (rt_P sc fm) 129 131 (.bipush 27) (133) := ri_of (by decide +kernel) rfl
theorem wi_129_133 : ri (rt_P sc fm) 129 133 (.if_icmp .eq 7) (136) := ri_of (by decide +kernel) rfl
theorem wi_129_136 : ri (rt_P sc fm) 129 136 (.iconst 1) (137) := ri_of (by decide +kernel) rfl
theorem wi_129_137 : ri (rt_P sc fm) 129 137 (.goto 4) (140) := ri_of (by decide +kernel) rfl
theorem wi_129_140 : ri (rt_P sc fm) 129 140 (.iconst 0) (141) := ri_of (by decide +kernel) rfl
theorem wi_129_141 : ri (rt_P sc fm) 129 141 (.istore 6) (143) := ri_of (by decide +kernel) rfl
theorem wi_129_143 : ri (rt_P sc fm) 129 143 (.aload_n 0) (144) := ri_of (by decide +kernel) rfl
theorem wi_129_144 : ri (rt_P sc fm) 129 144 (.getfield 200) (147) := ri_of (by decide +kernel) rfl
theorem wi_129_147 : ri (rt_P sc fm) 129 147 (.iload 5) (149) := ri_of (by decide +kernel) rfl
theorem wi_129_149 : ri (rt_P sc fm) 129 149 (.iaload) (150) := ri_of (by decide +kernel) rfl
theorem wi_129_150 : ri (rt_P sc fm) 129 150 (.ifCond .lt 31) (153) := ri_of (by decide +kernel) rfl
theorem wi_129_153 : ri (rt_P sc fm) 129 153 (.iload 6) (155) := ri_of (by decide +kernel) rfl
theorem wi_129_155 : ri (rt_P sc fm) 129 155 (.ifCond .eq 22) (158) := ri_of (by decide +kernel) rfl
theorem wi_129_158 : ri (rt_P sc fm) 129 158 (.aload_n 0) (159) := ri_of (by decide +kernel) rfl
theorem wi_129_159 : ri (rt_P sc fm) 129 159 (.getfield 200) (162) := ri_of (by decide +kernel) rfl
theorem wi_129_16 : ri (rt_P sc fm) 129 16 (.iload_n 1) (17) := ri_of (by decide +kernel) rfl
theorem wi_129_162 : ri (rt_P sc fm) 129 162 (.iload 5) (164) := ri_of (by decide +kernel) rfl
theorem wi_129_164 : ri (rt_P sc fm) 129 164 (.iaload) (165) := ri_of (by decide +kernel) rfl
theorem wi_129_165 : ri (rt_P sc fm) 129 165 (.aload_n 0) (166) := ri_of (by decide +kernel) rfl
theorem wi_129_166 : ri (rt_P sc fm) 129 166 (.getfield 296) (169) := ri_of (by decide +kernel) rfl
theorem wi_129_169 : ri (rt_P sc fm) 129 169 (.iload 4) (171) := ri_of (by decide +kernel) rfl
theorem wi_129_17 : ri (rt_P sc fm) 129 17 (.aload_n 0) (18) := ri_of (by decide +kernel) rfl
theorem wi_129_171 : ri (rt_P sc fm) 129 171 (.iaload) (172) := ri_of (by decide +kernel) rfl
theorem wi_129_172 : ri (rt_P sc fm) 129 172 (.iconst 1) (173) := ri_of (by decide +kernel) rfl
theorem wi_129_173 : ri (rt_P sc fm) 129 173 (.iadd) (174) := ri_of (by decide +kernel) rfl
theorem wi_129_174 : ri (rt_P sc fm) 129 174 (.if_icmp .ge 7) (177) := ri_of (by decide +kernel) rfl
theorem wi_129_177 : ri (rt_P sc fm) 129 177 (.iconst 1) (178) := ri_of (by decide +kernel) rfl
theorem wi_129_178 : ri (rt_P sc fm) 129 178 (.goto 4) (181) := ri_of (by decide +kernel) rfl
theorem wi_129_18 : ri (rt_P sc fm) 129 18 (.getfield 859) (21) := ri_of (by decide +kernel) rfl
theorem wi_129_181 : ri (rt_P sc fm) 129 181 (.iconst 0) (182) := ri_of (by decide +kernel) rfl
theorem wi_129_182 : ri (rt_P sc fm) 129 182 (.istore 7) (184) := ri_of (by decide +kernel) rfl
theorem wi_129_184 : ri (rt_P sc fm) 129 184 (.iload 7) (186) := ri_of (by decide +kernel) rfl
theorem wi_129_186 : ri (rt_P sc fm) 129 186 (.ifCond .eq 12) (189) := ri_of (by decide +kernel) rfl
theorem wi_129_189 : ri (rt_P sc fm) 129 189 (.aload_n 0) (190) := ri_of (by decide +kernel) rfl
theorem wi_129_190 : ri (rt_P sc fm) 129 190 (.iload_n 2) (191) := ri_of (by decide +kernel) rfl
theorem wi_129_191 : ri (rt_P sc fm) 129 191 (.iload 4) (193) := ri_of (by decide +kernel) rfl
theorem wi_129_193 : ri (rt_P sc fm) 129 193 (.iload_n 1) (194) := ri_of (by decide +kernel) rfl
theorem wi_129_194 : ri (rt_P sc fm) 129 194 (.iconst 1) (195) := ri_of (by decide +kernel) rfl
theorem wi_129_195 : ri (rt_P sc fm) 129 195 (.invokevirtual 890) (198) := ri_of (by decide +kernel) rfl
theorem wi_129_198 : ri (rt_P sc fm) 129 198 (.iload 6) (200) := ri_of (by decide +kernel) rfl
theorem wi_129_2 : ri (rt_P sc fm) 129 2 (.putfield 356) (5) := ri_of (by decide +kernel) rfl
theorem wi_129_200 : ri (rt_P sc fm) 129 200 (.ifCond .eq 26) (203) := ri_of (by decide +kernel) rfl
theorem wi_129_203 : ri (rt_P sc fm) 129 203 (.aload_n 0) (204) := ri_of (by decide +kernel) rfl
theorem wi_129_204 : ri (rt_P sc fm) 129 204 (.getfield 883) (207) := ri_of (by decide +kernel) rfl
theorem wi_129_207 : ri (rt_P sc fm) 129 207 (.ifCond .ge 19) (210) := ri_of (by decide +kernel) rfl
theorem wi_129_21 : ri (rt_P sc fm) 129 21 (.if_icmp .lt 5) (24) := ri_of (by decide +kernel) rfl
theorem wi_129_210 : ri (rt_P sc fm) 129 210 (.aload_n 0) (211) := ri_of (by decide +kernel) rfl
theorem wi_129_211 : ri (rt_P sc fm) 129 211 (.getfield 880) (214) := ri_of (by decide +kernel) rfl
theorem wi_129_214 : ri (rt_P sc fm) 129 214 (.ifCond .ne 12) (217) := ri_of (by decide +kernel) rfl
theorem wi_129_217 : ri (rt_P sc fm) 129 217 (.aload_n 0) (218) := ri_of (by decide +kernel) rfl
theorem wi_129_218 : ri (rt_P sc fm) 129 218 (.iload_n 2) (219) := ri_of (by decide +kernel) rfl
theorem wi_129_219 : ri (rt_P sc fm) 129 219 (.iload 4) (221) := ri_of (by decide +kernel) rfl
theorem wi_129_221 : ri (rt_P sc fm) 129 221 (.iload_n 1) (222) := ri_of (by decide +kernel) rfl
theorem wi_129_222 : ri (rt_P sc fm) 129 222 (.iconst 0) (223) := ri_of (by decide +kernel) rfl
theorem wi_129_223 : ri (rt_P sc fm) 129 223 (.invokevirtual 890) (226) := ri_of (by decide +kernel) rfl
theorem wi_129_226 : ri (rt_P sc fm) 129 226 (.aload_n 0) (227) := ri_of (by decide +kernel) rfl
theorem wi_129_227 : ri (rt_P sc fm) 129 227 (.getfield 200) (230) := ri_of (by decide +kernel) rfl
theorem wi_129_230 : ri (rt_P sc fm) 129 230 (.iload 5) (232) := ri_of (by decide +kernel) rfl
theorem wi_129_232 : ri (rt_P sc fm) 129 232 (.iaload) (233) := ri_of (by decide +kernel) rfl
theorem wi_129_233 : ri (rt_P sc fm) 129 233 (.ifCond .lt 31) (236) := ri_of (by decide +kernel) rfl
theorem wi_129_236 : ri (rt_P sc fm) 129 236 (.iload 7) (238) := ri_of (by decide +kernel) rfl
theorem wi_129_238 : ri (rt_P sc fm) 129 238 (.ifCond .ne 26) (241) := ri_of (by decide +kernel) rfl
theorem wi_129_24 : ri (rt_P sc fm) 129 24 (.iconst (-1)) (25) := ri_of (by decide +kernel) rfl
theorem wi_129_241 : ri (rt_P sc fm) 129 241 (.aload_n 0) (242) := ri_of (by decide +kernel) rfl
theorem wi_129_242 : ri (rt_P sc fm) 129 242 (.getfield 883) (245) := ri_of (by decide +kernel) rfl
theorem wi_129_245 : ri (rt_P sc fm) 129 245 (.ifCond .ge 19) (248) := ri_of (by decide +kernel) rfl
theorem wi_129_248 : ri (rt_P sc fm) 129 248 (.aload_n 0) (249) := ri_of (by decide +kernel) rfl
theorem wi_129_249 : ri (rt_P sc fm) 129 249 (.getfield 880) (252) := ri_of (by decide +kernel) rfl
theorem wi_129_25 : ri (rt_P sc fm) 129 25 (.ireturn) (26) := ri_of (by decide +kernel) rfl
theorem wi_129_252 : ri (rt_P sc fm) 129 252 (.ifCond .ne 12) (255) := ri_of (by decide +kernel) rfl
theorem wi_129_255 : ri (rt_P sc fm) 129 255 (.aload_n 0) (256) := ri_of (by decide +kernel) rfl
theorem wi_129_256 : ri (rt_P sc fm) 129 256 (.iload_n 2) (257) := ri_of (by decide +kernel) rfl
theorem wi_129_257 : ri (rt_P sc fm) 129 257 (.iload 4) (259) := ri_of (by decide +kernel) rfl
theorem wi_129_259 : ri (rt_P sc fm) 129 259 (.iload_n 1) (260) := ri_of (by decide +kernel) rfl
theorem wi_129_26 : ri (rt_P sc fm) 129 26 (.aload_n 0) (27) := ri_of (by decide +kernel) rfl
theorem wi_129_260 : ri (rt_P sc fm) 129 260 (.iconst 1) (261) := ri_of (by decide +kernel) rfl
theorem wi_129_261 : ri (rt_P sc fm) 129 261 (.invokevirtual 890) (264) := ri_of (by decide +kernel) rfl
theorem wi_129_264 : ri (rt_P sc fm) 129 264 (.iinc 4 1) (267) := ri_of (by decide +kernel) rfl
theorem wi_129_267 : ri (rt_P sc fm) 129 267 (.goto (-192)) (270) := ri_of (by decide +kernel) rfl
theorem wi_129_27 : ri (rt_P sc fm) 129 27 (.getfield 277) (30) := ri_of (by decide +kernel) rfl
theorem wi_129_270 : ri (rt_P sc fm) 129 270 (.aload_n 0) (271) := ri_of (by decide +kernel) rfl
theorem wi_129_271 : ri (rt_P sc fm) 129 271 (.getfield 883) (274) := ri_of (by decide +kernel) rfl
theorem wi_129_274 : ri (rt_P sc fm) 129 274 (.ifCond .ge 17) (277) := ri_of (by decide +kernel) rfl
theorem wi_129_277 : ri (rt_P sc fm) 129 277 (.aload_n 0) (278) := ri_of (by decide +kernel) rfl
theorem wi_129_278 : ri (rt_P sc fm) 129 278 (.getfield 880) (281) := ri_of (by decide +kernel) rfl
theorem wi_129_281 : ri (rt_P sc fm) 129 281 (.ifCond .eq 8) (284) := ri_of (by decide +kernel) rfl
theorem wi_129_284 : ri (rt_P sc fm) 129 284 (.bipush (-2)) (286) := ri_of (by decide +kernel) rfl
theorem wi_129_286 : ri (rt_P sc fm) 129 286 (.goto 4) (289) := ri_of (by decide +kernel) rfl
theorem wi_129_289 : ri (rt_P sc fm) 129 289 (.iconst 0) (290) := ri_of (by decide +kernel) rfl
theorem wi_129_290 : ri (rt_P sc fm) 129 290 (.ireturn) (291) := ri_of (by decide +kernel) rfl
theorem wi_129_291 : ri (rt_P sc fm) 129 291 (.iconst 0) (292) := ri_of (by decide +kernel) rfl
theorem wi_129_292 : ri (rt_P sc fm) 129 292 (.istore 4) (294) := ri_of (by decide +kernel) rfl
theorem wi_129_294 : ri (rt_P sc fm) 129 294 (.aload_n 0) (295) := ri_of (by decide +kernel) rfl
theorem wi_129_295 : ri (rt_P sc fm) 129 295 (.getfield 883) (298) := ri_of (by decide +kernel) rfl
theorem wi_129_298 : ri (rt_P sc fm) 129 298 (.istore 5) (300) := ri_of (by decide +kernel) rfl
theorem wi_129_30 : ri (rt_P sc fm) 129 30 (.iload_n 1) (31) := ri_of (by decide +kernel) rfl
theorem wi_129_300 : ri (rt_P sc fm) 129 300 (.iload 5) (302) := ri_of (by decide +kernel) rfl
theorem wi_129_302 : ri (rt_P sc fm) 129 302 (.ifCond .lt 18) (305) := ri_of (by decide +kernel) rfl
theorem wi_129_305 : ri (rt_P sc fm) 129 305 (.iinc 4 1) (308) := ri_of (by decide +kernel) rfl
theorem wi_129_308 : ri (rt_P sc fm) 129 308 (.aload_n 0) (309) := ri_of (by decide +kernel) rfl
theorem wi_129_309 : ri (rt_P sc fm) 129 309 (.getfield 299) (312) := ri_of (by decide +kernel) rfl
theorem wi_129_31 : ri (rt_P sc fm) 129 31 (.iaload) (32) := ri_of (by decide +kernel) rfl
theorem wi_129_312 : ri (rt_P sc fm) 129 312 (.iload 5) (314) := ri_of (by decide +kernel) rfl
theorem wi_129_314 : ri (rt_P sc fm) 129 314 (.iaload) (315) := ri_of (by decide +kernel) rfl
theorem wi_129_315 : ri (rt_P sc fm) 129 315 (.istore 5) (317) := ri_of (by decide +kernel) rfl
theorem wi_129_317 : ri (rt_P sc fm) 129 317 (.goto (-17)) (320) := ri_of (by decide +kernel) rfl
theorem wi_129_32 : ri (rt_P sc fm) 129 32 (.istore_n 2) (33) := ri_of (by decide +kernel) rfl
theorem wi_129_320 : ri (rt_P sc fm) 129 320 (.aload_n 0) (321) := ri_of (by decide +kernel) rfl
theorem wi_129_321 : ri (rt_P sc fm) 129 321 (.iload 4) (323) := ri_of (by decide +kernel) rfl
theorem wi_129_323 : ri (rt_P sc fm) 129 323 (.putfield 874) (326) := ri_of (by decide +kernel) rfl
theorem wi_129_326 : ri (rt_P sc fm) 129 326 (.aload_n 0) (327) := ri_of (by decide +kernel) rfl
theorem wi_129_327 : ri (rt_P sc fm) 129 327 (.getfield 883) (330) := ri_of (by decide +kernel) rfl
theorem wi_129_33 : ri (rt_P sc fm) 129 33 (.aload_n 0) (34) := ri_of (by decide +kernel) rfl
theorem wi_129_330 : ri (rt_P sc fm) 129 330 (.istore 5) (332) := ri_of (by decide +kernel) rfl
theorem wi_129_332 : ri (rt_P sc fm) 129 332 (.iload 5) (334) := ri_of (by decide +kernel) rfl
theorem wi_129_334 : ri (rt_P sc fm) 129 334 (.ifCond .lt 32) (337) := ri_of (by decide +kernel) rfl
theorem wi_129_337 : ri (rt_P sc fm) 129 337 (.iinc 4 (-1)) (340) := ri_of (by decide +kernel) rfl
theorem wi_129_34 : ri (rt_P sc fm) 129 34 (.getfield 292) (37) := ri_of (by decide +kernel) rfl
theorem wi_129_340 : ri (rt_P sc fm) 129 340 (.aload_n 0) (341) := ri_of (by decide +kernel) rfl
theorem wi_129_341 : ri (rt_P sc fm) 129 341 (.getfield 305) (344) := ri_of (by decide +kernel) rfl
theorem wi_129_344 : ri (rt_P sc fm) 129 344 (.iload 4) (346) := ri_of (by decide +kernel) rfl
theorem wi_129_346 : ri (rt_P sc fm) 129 346 (.aload_n 0) (347) := ri_of (by decide +kernel) rfl
theorem wi_129_347 : ri (rt_P sc fm) 129 347 (.getfield 296) (350) := ri_of (by decide +kernel) rfl
theorem wi_129_350 : ri (rt_P sc fm) 129 350 (.iload 5) (352) := ri_of (by decide +kernel) rfl
theorem wi_129_352 : ri (rt_P sc fm) 129 352 (.iaload) (353) := ri_of (by decide +kernel) rfl
theorem wi_129_353 : ri (rt_P sc fm) 129 353 (.iastore) (354) := ri_of (by decide +kernel) rfl
theorem wi_129_354 : ri (rt_P sc fm) 129 354 (.aload_n 0) (355) := ri_of (by decide +kernel) rfl
theorem wi_129_355 : ri (rt_P sc fm) 129 355 (.getfield 299) (358) := ri_of (by decide +kernel) rfl
theorem wi_129_358 : ri (rt_P sc fm) 129 358 (.iload 5) (360) := ri_of (by decide +kernel) rfl
theorem wi_129_360 : ri (rt_P sc fm) 129 360 (.iaload) (361) := ri_of (by decide +kernel) rfl
theorem wi_129_361 : ri (rt_P sc fm) 129 361 (.istore 5) (363) := ri_of (by decide +kernel) rfl
theorem wi_129_363 : ri (rt_P sc fm) 129 363 (.goto (-31)) (366) := ri_of (by decide +kernel) rfl
theorem wi_129_366 : ri (rt_P sc fm) 129 366 (.aload_n 0) (367) := ri_of (by decide +kernel) rfl
theorem wi_129_367 : ri (rt_P sc fm) 129 367 (.getfield 874) (370) := ri_of (by decide +kernel) rfl
theorem wi_129_37 : ri (rt_P sc fm) 129 37 (.istore_n 3) (38) := ri_of (by decide +kernel) rfl
theorem wi_129_370 : ri (rt_P sc fm) 129 370 (.ireturn) (371) := ri_of (by decide +kernel) rfl
theorem wi_129_38 : ri (rt_P sc fm) 129 38 (.aload_n 0) (39) := ri_of (by decide +kernel) rfl
theorem wi_129_39 : ri (rt_P sc fm) 129 39 (.iload_n 3) (40) := ri_of (by decide +kernel) rfl
theorem wi_129_40 : ri (rt_P sc fm) 129 40 (.invokevirtual 856) (43) := ri_of (by decide +kernel) rfl
theorem wi_129_43 : ri (rt_P sc fm) 129 43 (.aload_n 0) (44) := ri_of (by decide +kernel) rfl
theorem wi_129_44 : ri (rt_P sc fm) 129 44 (.iconst 0) (45) := ri_of (by decide +kernel) rfl
theorem wi_129_45 : ri (rt_P sc fm) 129 45 (.putfield 877) (48) := ri_of (by decide +kernel) rfl
theorem wi_129_48 : ri (rt_P sc fm) 129 48 (.aload_n 0) (49) := ri_of (by decide +kernel) rfl
theorem wi_129_49 : ri (rt_P sc fm) 129 49 (.iconst 0) (50) := ri_of (by decide +kernel) rfl
theorem wi_129_5 : ri (rt_P sc fm) 129 5 (.aload_n 0) (6) := ri_of (by decide +kernel) rfl
theorem wi_129_50 : ri (rt_P sc fm) 129 50 (.putfield 880) (53) := ri_of (by decide +kernel) rfl
theorem wi_129_53 : ri (rt_P sc fm) 129 53 (.aload_n 0) (54) := ri_of (by decide +kernel) rfl
theorem wi_129_54 : ri (rt_P sc fm) 129 54 (.iconst (-1)) (55) := ri_of (by decide +kernel) rfl
theorem wi_129_55 : ri (rt_P sc fm) 129 55 (.putfield 883) (58) := ri_of (by decide +kernel) rfl
theorem wi_129_58 : ri (rt_P sc fm) 129 58 (.aload_n 0) (59) := ri_of (by decide +kernel) rfl
theorem wi_129_59 : ri (rt_P sc fm) 129 59 (.iload_n 2) (60) := ri_of (by decide +kernel) rfl
theorem wi_129_6 : ri (rt_P sc fm) 129 6 (.getfield 292) (9) := ri_of (by decide +kernel) rfl
theorem wi_129_60 : ri (rt_P sc fm) 129 60 (.iload_n 3) (61) := ri_of (by decide +kernel) rfl
theorem wi_129_61 : ri (rt_P sc fm) 129 61 (.invokevirtual 844) (64) := ri_of (by decide +kernel) rfl
theorem wi_129_64 : ri (rt_P sc fm) 129 64 (.aload_n 0) (65) := ri_of (by decide +kernel) rfl
theorem wi_129_65 : ri (rt_P sc fm) 129 65 (.iload_n 2) (66) := ri_of (by decide +kernel) rfl
theorem wi_129_66 : ri (rt_P sc fm) 129 66 (.iconst 0) (67) := ri_of (by decide +kernel) rfl
theorem wi_129_67 : ri (rt_P sc fm) 129 67 (.iconst (-1)) (68) := ri_of (by decide +kernel) rfl
theorem wi_129_68 : ri (rt_P sc fm) 129 68 (.iload_n 1) (69) := ri_of (by decide +kernel) rfl
theorem wi_129_69 : ri (rt_P sc fm) 129 69 (.invokevirtual 886) (72) := ri_of (by decide +kernel) rfl
theorem wi_129_72 : ri (rt_P sc fm) 129 72 (.iconst 0) (73) := ri_of (by decide +kernel) rfl
theorem wi_129_73 : ri (rt_P sc fm) 129 73 (.istore 4) (75) := ri_of (by decide +kernel) rfl
theorem wi_129_75 : ri (rt_P sc fm) 129 75 (.iload 4) (77) := ri_of (by decide +kernel) rfl
theorem wi_129_77 : ri (rt_P sc fm) 129 77 (.aload_n 0) (78) := ri_of (by decide +kernel) rfl
theorem wi_129_78 : ri (rt_P sc fm) 129 78 (.getfield 877) (81) := ri_of (by decide +kernel) rfl
theorem wi_129_81 : ri (rt_P sc fm) 129 81 (.if_icmp .ge 189) (84) := ri_of (by decide +kernel) rfl
theorem wi_129_84 : ri (rt_P sc fm) 129 84 (.aload_n 0) (85) := ri_of (by decide +kernel) rfl
theorem wi_129_85 : ri (rt_P sc fm) 129 85 (.getfield 883) (88) := ri_of (by decide +kernel) rfl
theorem wi_129_88 : ri (rt_P sc fm) 129 88 (.ifCond .ge 182) (91) := ri_of (by decide +kernel) rfl
theorem wi_129_9 : ri (rt_P sc fm) 129 9 (.ifCond .lt 15) (12) := ri_of (by decide +kernel) rfl
theorem wi_129_91 : ri (rt_P sc fm) 129 91 (.aload_n 0) (92) := ri_of (by decide +kernel) rfl
theorem wi_129_92 : ri (rt_P sc fm) 129 92 (.getfield 880) (95) := ri_of (by decide +kernel) rfl
theorem wi_129_95 : ri (rt_P sc fm) 129 95 (.ifCond .ne 175) (98) := ri_of (by decide +kernel) rfl
theorem wi_129_98 : ri (rt_P sc fm) 129 98 (.bipush 40) (100) := ri_of (by decide +kernel) rfl
set_option maxRecDepth 100000 in
theorem wm_462 : rx_ml (rt_P sc fm) 462 = 7 := (by decide +kernel : rt_ml 462 = 7)
set_option maxRecDepth 100000 in
theorem wp_129_356 : rx_pt (rt_P sc fm) 129 356 = some (15, 0, .int) := (by decide +kernel : rt_pt 129 356 = some (15, 0, .int))
set_option maxRecDepth 100000 in
theorem wp_129_874 : rx_pt (rt_P sc fm) 129 874 = some (15, 102, .int) := (by decide +kernel : rt_pt 129 874 = some (15, 102, .int))
set_option maxRecDepth 100000 in
theorem wp_129_877 : rx_pt (rt_P sc fm) 129 877 = some (15, 101, .int) := (by decide +kernel : rt_pt 129 877 = some (15, 101, .int))
set_option maxRecDepth 100000 in
theorem wp_129_880 : rx_pt (rt_P sc fm) 129 880 = some (15, 104, .boolean) := (by decide +kernel : rt_pt 129 880 = some (15, 104, .boolean))
set_option maxRecDepth 100000 in
theorem wp_129_883 : rx_pt (rt_P sc fm) 129 883 = some (15, 105, .int) := (by decide +kernel : rt_pt 129 883 = some (15, 105, .int))
set_option maxRecDepth 100000 in
theorem wr_129 : rx_rt (rt_P sc fm) 129 = (some FieldType.int) := (by decide +kernel : rt_rt 129 = (some FieldType.int))
/-- MarkHouseModel.way(I)I -/
def d_129 (n : Nat) (a1 : Int32) (c : cS) : Option (Int32 × cS) :=
  lt (pI c 174 0 0) (fun c1 =>
  jn (fun p3 : Unit =>
    some ((-1), c1))
  (fun j24 =>
  if (c1.1 174 97) < 0 then
    j24 ()
  else
    if a1 < 0 then
      j24 ()
    else
      if a1 < (c1.1 174 91) then
        if ib a1 15360 then
        lt ((c1.1 241 (ix a1)) : Int32) (fun v6 =>
        lt ((c1.1 174 97) : Int32) (fun v9 =>
        Option.bind (d_450 n v9 c1) (fun r11 =>
        lt (pI r11 174 101 0) (fun c12 =>
        lt (pI c12 174 104 0) (fun c14 =>
        lt (pI c14 174 105 (-1)) (fun c16 =>
        Option.bind (d_452 n v6 v9 c16) (fun r18 =>
        Option.bind (d_461 n v6 0 (-1) a1 r18) (fun r19 =>
        Option.bind (whl (R := (cS)) (fun s21 : Int32 × cS =>
          if (s21.2.1 174 101) ≤ s21.1 then
            some (.inr s21.2)
          else
            if 0 ≤ (s21.2.1 174 105) then
              some (.inr s21.2)
            else
              if (s21.2.1 174 104) = 0 then
                if ib s21.1 400 then
                lt (((40 * v6) + (s21.2.1 246 (ix s21.1))) : Int32) (fun v24 =>
                if ib v24 3840 then
                jn (fun p27 : Int32 =>
                  if ib v24 3840 then
                  jn (fun p30 : Int32 =>
                    jn (fun p32 : cS =>
                      jn (fun p33 : cS =>
                        if ib v24 3840 then
                        jn (fun p35 : cS =>
                          lt (s21.1 + 1 : Int32) (fun v37 =>
                          some (.inl (v37, p35))))
                        (fun j264 =>
                        if (p33.1 216 (ix v24)) < 0 then
                          j264 p33
                        else
                          if p30 = 0 then
                            if 0 ≤ (p33.1 174 105) then
                              j264 p33
                            else
                              if (p33.1 174 104) = 0 then
                                Option.bind (d_462 n v6 s21.1 a1 1 p33) (fun r39 =>
                                j264 r39)
                              else
                                j264 p33
                          else
                            j264 p33)
                        else none)
                      (fun j226 =>
                      if p27 = 0 then
                        j226 p32
                      else
                        if 0 ≤ (p32.1 174 105) then
                          j226 p32
                        else
                          if (p32.1 174 104) = 0 then
                            Option.bind (d_462 n v6 s21.1 a1 0 p32) (fun r40 =>
                            j226 r40)
                          else
                            j226 p32))
                    (fun j198 =>
                    if p30 = 0 then
                      j198 s21.2
                    else
                      Option.bind (d_462 n v6 s21.1 a1 1 s21.2) (fun r41 =>
                      j198 r41)))
                  (fun j182 =>
                  jn (fun p42 : Unit =>
                    j182 0)
                  (fun j181 =>
                  if (s21.2.1 216 (ix v24)) < 0 then
                    j181 ()
                  else
                    jn (fun p43 : Unit =>
                      j182 1)
                    (fun j177 =>
                    if p27 = 0 then
                      j177 ()
                    else
                      if ib v24 3840 then
                      if ib s21.1 400 then
                      if ((s21.2.1 246 (ix s21.1)) + 1) ≤ (s21.2.1 216 (ix v24)) then
                        j181 ()
                      else
                        j177 ()
                      else none
                      else none)))
                  else none)
                (fun j141 =>
                jn (fun p46 : Unit =>
                  j141 0)
                (fun j140 =>
                if (s21.2.1 211 (ix v24)) = 21 then
                  j140 ()
                else
                  if ib v24 3840 then
                  if (s21.2.1 211 (ix v24)) = 27 then
                    j140 ()
                  else
                    j141 1
                  else none))
                else none)
                else none
              else
                some (.inr s21.2)) n (0, r19))
        (fun x48 : cS =>
          if 0 ≤ (x48.1 174 105) then
            lt ((x48.1 174 105) : Int32) (fun v51 =>
            Option.bind (whl (R := (Int32)) (fun s53 : Int32 × Int32 =>
              if s53.2 < 0 then
                some (.inr s53.1)
              else
                lt (s53.1 + 1 : Int32) (fun v55 =>
                if ib s53.2 400 then
                lt ((x48.1 247 (ix s53.2)) : Int32) (fun v59 =>
                some (.inl (v55, v59)))
                else none)) n (0, v51))
            (fun x61 : Int32 =>
              lt (pI x48 174 102 x61) (fun c62 =>
              lt ((c62.1 174 105) : Int32) (fun v65 =>
              Option.bind (whl (R := (cS)) (fun s67 : Int32 × Int32 × cS =>
                if s67.2.1 < 0 then
                  some (.inr s67.2.2)
                else
                  lt (s67.1 + (-1) : Int32) (fun v69 =>
                  if ib s67.2.1 400 then
                  if ib v69 400 then
                  lt (pI s67.2.2 249 (ix v69) (s67.2.2.1 246 (ix s67.2.1))) (fun c73 =>
                  if ib s67.2.1 400 then
                  lt ((c73.1 247 (ix s67.2.1)) : Int32) (fun v77 =>
                  some (.inl (v69, v77, c73)))
                  else none)
                  else none
                  else none)) n (x61, v65, c62))
              (fun x79 : cS =>
                some ((x79.1 174 102), x79))))))
          else
            jn (fun p80 : Int32 =>
              some (p80, x48))
            (fun j290 =>
            if (x48.1 174 104) = 0 then
              j290 0
            else
              j290 (-2)))))))))))
        else none
      else
        j24 ()))
set_option maxRecDepth 100000 in
set_option maxHeartbeats 4000000 in
theorem sp_129 {F Lo n : Nat} {a1 : Int32} {c y : cS} {w : cW} {K : Int32 × cS → Prop} {Q : ((Option Value) ⊕ String) → List va_E → Prop} (hw : rOK fm w) (hF : 6 ≤ F) (hLo : 149 ≤ Lo)  (h : wp (d_129 n a1 c) K) (hQ : ∀ r, K r → Q (.inl (some (.int r.1))) (hq false r.2 y w)) : rs (rt_P sc fm) 129 F Lo 0 [(0, .ref 174), (1, .int a1)] [] (hq false c y w) Q := by
  unfold d_129 at h
  obtain ⟨lv, elv⟩ : ∃ lv : rx_L, lv = [(0, .ref 174), (1, .int a1)] := ⟨_, rfl⟩
  rw [← elv]
  have l0 : rx_ld lv 0 = some (.ref 174) := by rw [elv]; rfl
  have l1 : rx_ld lv 1 = some (.int a1) := by rw [elv]; rfl
  refine rs_aldn wi_129_0 l0 ?_
  refine rs_pure wi_129_1 rfl ?_
  refine rs_topi (v := 0) (by decide) ?_
  obtain ⟨c1, e2, h⟩ := wp_lt h
  refine dq_pi wi_129_2 wp_129_356 tf_174_0 rfl rfl e2 ?_
  refine rs_aldn wi_129_5 l0 ?_
  refine dq_gi wi_129_6 wf_129_292 tf_174_97 ?_
  refine wp_jn (B := fun p3 : Unit => ∀ lv, rs (rt_P sc fm) 129 F Lo 24 lv [] (hq false c1 y w) Q) h (fun p3 h lv => ?_) (fun j24 hj24 h => ?_)
  ·
    refine rs_pure wi_129_24 rfl ?_
    refine rs_topi (v := (-1)) (by decide) ?_
    exact rs_iret wi_129_25 wr_129 rfl (hQ ((-1), c1) h)
  refine rs_iflt (tg := 24) wi_129_9 ⟨by decide, by decide⟩ (fun q => ?_) (fun q => ?_)
  ·
    have h := wp_pos h q
    exact hj24 _ h _
  ·
    have h := wp_neg h q
    refine rs_ildn wi_129_12 l1 ?_
    refine rs_iflt (tg := 24) wi_129_13 ⟨by decide, by decide⟩ (fun q => ?_) (fun q => ?_)
    ·
      have h := wp_pos h q
      exact hj24 _ h _
    ·
      have h := wp_neg h q
      refine rs_ildn wi_129_16 l1 ?_
      refine rs_aldn wi_129_17 l0 ?_
      refine dq_gi wi_129_18 wf_129_859 tf_174_91 ?_
      refine rs_iclt (tg := 26) wi_129_21 ⟨by decide, by decide⟩ (fun q => ?_) (fun q => ?_)
      ·
        have h := wp_pos h q
        refine rs_aldn wi_129_26 l0 ?_
        refine dq_gr wi_129_27 wf_129_277 tf_174_92 ?_
        refine rs_ildn wi_129_30 l1 ?_
        obtain ⟨g4, h⟩ := wp_gd h
        refine dq_iald wi_129_31 t_241 g4 ?_
        obtain ⟨v6, e7, h⟩ := wp_lt h
        refine rs_topi e7 ?_
        refine dl_istn wi_129_32 rfl (fun lv l2 t5 => ?_)
        have l0 := t5 _ _ (by decide) (Or.inl rfl) l0
        have l1 := t5 _ _ (by decide) (Or.inl rfl) l1
        refine rs_aldn wi_129_33 l0 ?_
        refine dq_gi wi_129_34 wf_129_292 tf_174_97 ?_
        obtain ⟨v9, e10, h⟩ := wp_lt h
        refine rs_topi e10 ?_
        refine dl_istn wi_129_37 rfl (fun lv l3 t8 => ?_)
        have l0 := t8 _ _ (by decide) (Or.inl rfl) l0
        have l1 := t8 _ _ (by decide) (Or.inl rfl) l1
        have l2 := t8 _ _ (by decide) (Or.inl rfl) l2
        refine rs_aldn wi_129_38 l0 ?_
        refine rs_ildn wi_129_39 l3 ?_
        refine rs_V wi_129_40 wc_129_856 rfl (dq_isa tf_174_0 wa_15_450) (Nat.le_trans (by decide) hF) (ml_le wm_450 (Nat.le_trans (by decide) hLo)) rfl (sp_450 hw (Nat.le_trans (by decide : 5 ≤ 6 - 1) (Nat.sub_le_sub_right hF 1)) (ml_sub wm_450 (Nat.le_trans (by decide : 127 ≤ 149 - 22) (Nat.sub_le_sub_right hLo 22))) (wp_bind h) (fun r11 h => rs_back0 ?_))
        refine rs_aldn wi_129_43 l0 ?_
        refine rs_pure wi_129_44 rfl ?_
        refine rs_topi (v := 0) (by decide) ?_
        obtain ⟨c12, e13, h⟩ := wp_lt h
        refine dq_pi wi_129_45 wp_129_877 tf_174_101 rfl rfl e13 ?_
        refine rs_aldn wi_129_48 l0 ?_
        refine rs_pure wi_129_49 rfl ?_
        refine rs_topi (v := 0) (by decide) ?_
        obtain ⟨c14, e15, h⟩ := wp_lt h
        refine dq_pi wi_129_50 wp_129_880 tf_174_104 (nb_n (by decide)) (nb_f (by decide)) e15 ?_
        refine rs_aldn wi_129_53 l0 ?_
        refine rs_pure wi_129_54 rfl ?_
        refine rs_topi (v := (-1)) (by decide) ?_
        obtain ⟨c16, e17, h⟩ := wp_lt h
        refine dq_pi wi_129_55 wp_129_883 tf_174_105 rfl rfl e17 ?_
        refine rs_aldn wi_129_58 l0 ?_
        refine rs_ildn wi_129_59 l2 ?_
        refine rs_ildn wi_129_60 l3 ?_
        refine rs_V wi_129_61 wc_129_844 rfl (dq_isa tf_174_0 wa_15_452) (Nat.le_trans (by decide) hF) (ml_le wm_452 (Nat.le_trans (by decide) hLo)) rfl (sp_452 hw (Nat.le_trans (by decide : 1 ≤ 6 - 1) (Nat.sub_le_sub_right hF 1)) (ml_sub wm_452 (Nat.le_trans (by decide : 20 ≤ 149 - 23) (Nat.sub_le_sub_right hLo 23))) (wp_bind h) (fun r18 h => rs_back0 ?_))
        refine rs_aldn wi_129_64 l0 ?_
        refine rs_ildn wi_129_65 l2 ?_
        refine rs_pure wi_129_66 rfl ?_
        refine rs_topi (v := 0) (by decide) ?_
        refine rs_pure wi_129_67 rfl ?_
        refine rs_topi (v := (-1)) (by decide) ?_
        refine rs_ildn wi_129_68 l1 ?_
        refine rs_V wi_129_69 wc_129_886 rfl (dq_isa tf_174_0 wa_15_461) (Nat.le_trans (by decide) hF) (ml_le wm_461 (Nat.le_trans (by decide) hLo)) rfl (sp_461 hw (Nat.le_trans (by decide : 2 ≤ 6 - 1) (Nat.sub_le_sub_right hF 1)) (ml_sub wm_461 (Nat.le_trans (by decide : 46 ≤ 149 - 29) (Nat.sub_le_sub_right hLo 29))) (wp_bind h) (fun r19 h => rs_back0 ?_))
        refine rs_pure wi_129_72 rfl ?_
        refine rs_topi (v := 0) (by decide) ?_
        refine dl_ist wi_129_73 rfl (fun lv l4 t20 => ?_)
        have l0 := t20 _ _ (by decide) (Or.inl rfl) l0
        have l1 := t20 _ _ (by decide) (Or.inl rfl) l1
        have l2 := t20 _ _ (by decide) (Or.inl rfl) l2
        refine whl_ex (A := fun s21 : Int32 × cS => ∀ lv, rx_ld lv 0 = some (.ref 174) → rx_ld lv 1 = some (.int a1) → rx_ld lv 2 = some (.int v6) → rx_ld lv 4 = some (.int s21.1) → rs (rt_P sc fm) 129 F Lo 75 lv [] (hq false s21.2 y w) Q) (B := (fun x48 : cS => ∀ lv, rx_ld lv 0 = some (.ref 174) → rs (rt_P sc fm) 129 F Lo 270 lv [] (hq false x48 y w) Q)) ?_ ?_ _ _ (wp_bind h) _ l0 l1 l2 l4
        · intro s21 h lv l0 l1 l2 l4
          refine rs_ild wi_129_75 l4 ?_
          refine rs_aldn wi_129_77 l0 ?_
          refine dq_gi wi_129_78 wf_129_877 tf_174_101 ?_
          refine rs_icge (tg := 270) wi_129_81 ⟨by decide, by decide⟩ (fun q => ?_) (fun q => ?_)
          ·
            have h := wp_pos h q
            exact h _ l0
          ·
            have h := wp_neg h q
            refine rs_aldn wi_129_84 l0 ?_
            refine dq_gi wi_129_85 wf_129_883 tf_174_105 ?_
            refine rs_ifge (tg := 270) wi_129_88 ⟨by decide, by decide⟩ (fun q => ?_) (fun q => ?_)
            ·
              have h := wp_pos h q
              exact h _ l0
            ·
              have h := wp_neg h q
              refine rs_aldn wi_129_91 l0 ?_
              refine dq_gi wi_129_92 wf_129_880 tf_174_104 ?_
              refine rs_ifne (tg := 270) wi_129_95 ⟨by decide, by decide⟩ (fun q => ?_) (fun q => ?_)
              ·
                have h := wp_neg h q
                exact h _ l0
              ·
                have h := wp_pos h q
                refine rs_pure wi_129_98 rfl ?_
                refine rs_topi (v := 40) (by decide) ?_
                refine rs_ildn wi_129_100 l2 ?_
                refine rs_pure wi_129_101 rfl ?_
                refine rs_aldn wi_129_102 l0 ?_
                refine dq_gr wi_129_103 wf_129_296 tf_174_98 ?_
                refine rs_ild wi_129_106 l4 ?_
                obtain ⟨g22, h⟩ := wp_gd h
                refine dq_iald wi_129_108 t_246 g22 ?_
                refine rs_pure wi_129_109 rfl ?_
                obtain ⟨v24, e25, h⟩ := wp_lt h
                refine rs_topi e25 ?_
                refine dl_ist wi_129_110 rfl (fun lv l5 t23 => ?_)
                have l0 := t23 _ _ (by decide) (Or.inl rfl) l0
                have l1 := t23 _ _ (by decide) (Or.inl rfl) l1
                have l2 := t23 _ _ (by decide) (Or.inl rfl) l2
                have l4 := t23 _ _ (by decide) (Or.inl rfl) l4
                refine rs_aldn wi_129_112 l0 ?_
                refine dq_gr wi_129_113 wf_129_185 tf_174_49 ?_
                refine rs_ild wi_129_116 l5 ?_
                obtain ⟨g26, h⟩ := wp_gd h
                refine dq_iald wi_129_118 t_211 g26 ?_
                refine rs_pure wi_129_119 rfl ?_
                refine rs_topi (v := 21) (by decide) ?_
                refine wp_jn (B := fun p27 : Int32 => ∀ lv, rx_ld lv 0 = some (.ref 174) → rx_ld lv 1 = some (.int a1) → rx_ld lv 2 = some (.int v6) → rx_ld lv 4 = some (.int s21.1) → rx_ld lv 5 = some (.int v24) → rs (rt_P sc fm) 129 F Lo 141 lv [.int p27] (hq false s21.2 y w) Q) h (fun p27 h lv l0 l1 l2 l4 l5 => ?_) (fun j141 hj141 h => ?_)
                ·
                  refine dl_ist wi_129_141 rfl (fun lv l6 t28 => ?_)
                  have l0 := t28 _ _ (by decide) (Or.inl rfl) l0
                  have l1 := t28 _ _ (by decide) (Or.inl rfl) l1
                  have l2 := t28 _ _ (by decide) (Or.inl rfl) l2
                  have l4 := t28 _ _ (by decide) (Or.inl rfl) l4
                  have l5 := t28 _ _ (by decide) (Or.inl rfl) l5
                  refine rs_aldn wi_129_143 l0 ?_
                  refine dq_gr wi_129_144 wf_129_200 tf_174_54 ?_
                  refine rs_ild wi_129_147 l5 ?_
                  obtain ⟨g29, h⟩ := wp_gd h
                  refine dq_iald wi_129_149 t_216 g29 ?_
                  refine wp_jn (B := fun p30 : Int32 => ∀ lv, rx_ld lv 0 = some (.ref 174) → rx_ld lv 1 = some (.int a1) → rx_ld lv 2 = some (.int v6) → rx_ld lv 4 = some (.int s21.1) → rx_ld lv 5 = some (.int v24) → rx_ld lv 6 = some (.int p27) → rs (rt_P sc fm) 129 F Lo 182 lv [.int p30] (hq false s21.2 y w) Q) h (fun p30 h lv l0 l1 l2 l4 l5 l6 => ?_) (fun j182 hj182 h => ?_)
                  ·
                    refine dl_ist wi_129_182 rfl (fun lv l7 t31 => ?_)
                    have l0 := t31 _ _ (by decide) (Or.inl rfl) l0
                    have l1 := t31 _ _ (by decide) (Or.inl rfl) l1
                    have l2 := t31 _ _ (by decide) (Or.inl rfl) l2
                    have l4 := t31 _ _ (by decide) (Or.inl rfl) l4
                    have l5 := t31 _ _ (by decide) (Or.inl rfl) l5
                    have l6 := t31 _ _ (by decide) (Or.inl rfl) l6
                    refine rs_ild wi_129_184 l7 ?_
                    refine wp_jn (B := fun p32 : cS => ∀ lv, rx_ld lv 0 = some (.ref 174) → rx_ld lv 1 = some (.int a1) → rx_ld lv 2 = some (.int v6) → rx_ld lv 4 = some (.int s21.1) → rx_ld lv 5 = some (.int v24) → rx_ld lv 6 = some (.int p27) → rx_ld lv 7 = some (.int p30) → rs (rt_P sc fm) 129 F Lo 198 lv [] (hq false p32 y w) Q) h (fun p32 h lv l0 l1 l2 l4 l5 l6 l7 => ?_) (fun j198 hj198 h => ?_)
                    ·
                      refine rs_ild wi_129_198 l6 ?_
                      refine wp_jn (B := fun p33 : cS => ∀ lv, rx_ld lv 0 = some (.ref 174) → rx_ld lv 1 = some (.int a1) → rx_ld lv 2 = some (.int v6) → rx_ld lv 4 = some (.int s21.1) → rx_ld lv 5 = some (.int v24) → rx_ld lv 7 = some (.int p30) → rs (rt_P sc fm) 129 F Lo 226 lv [] (hq false p33 y w) Q) h (fun p33 h lv l0 l1 l2 l4 l5 l7 => ?_) (fun j226 hj226 h => ?_)
                      ·
                        refine rs_aldn wi_129_226 l0 ?_
                        refine dq_gr wi_129_227 wf_129_200 tf_174_54 ?_
                        refine rs_ild wi_129_230 l5 ?_
                        obtain ⟨g34, h⟩ := wp_gd h
                        refine dq_iald wi_129_232 t_216 g34 ?_
                        refine wp_jn (B := fun p35 : cS => ∀ lv, rx_ld lv 0 = some (.ref 174) → rx_ld lv 1 = some (.int a1) → rx_ld lv 2 = some (.int v6) → rx_ld lv 4 = some (.int s21.1) → rs (rt_P sc fm) 129 F Lo 264 lv [] (hq false p35 y w) Q) h (fun p35 h lv l0 l1 l2 l4 => ?_) (fun j264 hj264 h => ?_)
                        ·
                          obtain ⟨v37, e38, h⟩ := wp_lt h
                          refine dl_inc wi_129_264 l4 rfl e38 (fun lv l4 t36 => ?_)
                          have l0 := t36 _ _ (by decide) (Or.inl rfl) l0
                          have l1 := t36 _ _ (by decide) (Or.inl rfl) l1
                          have l2 := t36 _ _ (by decide) (Or.inl rfl) l2
                          refine rs_goto (tg := 75) wi_129_267 ⟨by decide, by decide⟩ ?_
                          exact h _ l0 l1 l2 l4
                        refine rs_iflt (tg := 264) wi_129_233 ⟨by decide, by decide⟩ (fun q => ?_) (fun q => ?_)
                        ·
                          have h := wp_pos h q
                          exact hj264 _ h _ l0 l1 l2 l4
                        ·
                          have h := wp_neg h q
                          refine rs_ild wi_129_236 l7 ?_
                          refine rs_ifne (tg := 264) wi_129_238 ⟨by decide, by decide⟩ (fun q => ?_) (fun q => ?_)
                          ·
                            have h := wp_neg h q
                            exact hj264 _ h _ l0 l1 l2 l4
                          ·
                            have h := wp_pos h q
                            refine rs_aldn wi_129_241 l0 ?_
                            refine dq_gi wi_129_242 wf_129_883 tf_174_105 ?_
                            refine rs_ifge (tg := 264) wi_129_245 ⟨by decide, by decide⟩ (fun q => ?_) (fun q => ?_)
                            ·
                              have h := wp_pos h q
                              exact hj264 _ h _ l0 l1 l2 l4
                            ·
                              have h := wp_neg h q
                              refine rs_aldn wi_129_248 l0 ?_
                              refine dq_gi wi_129_249 wf_129_880 tf_174_104 ?_
                              refine rs_ifne (tg := 264) wi_129_252 ⟨by decide, by decide⟩ (fun q => ?_) (fun q => ?_)
                              ·
                                have h := wp_neg h q
                                exact hj264 _ h _ l0 l1 l2 l4
                              ·
                                have h := wp_pos h q
                                refine rs_aldn wi_129_255 l0 ?_
                                refine rs_ildn wi_129_256 l2 ?_
                                refine rs_ild wi_129_257 l4 ?_
                                refine rs_ildn wi_129_259 l1 ?_
                                refine rs_pure wi_129_260 rfl ?_
                                refine rs_topi (v := 1) (by decide) ?_
                                refine rs_V wi_129_261 wc_129_890 rfl (dq_isa tf_174_0 wa_15_462) (Nat.le_trans (by decide) hF) (ml_le wm_462 (Nat.le_trans (by decide) hLo)) rfl (sp_462 hw (Nat.le_trans (by decide : 3 ≤ 6 - 1) (Nat.sub_le_sub_right hF 1)) (ml_sub wm_462 (Nat.le_trans (by decide : 75 ≤ 149 - 26) (Nat.sub_le_sub_right hLo 26))) (wp_bind h) (fun r39 h => rs_back0 ?_))
                                exact hj264 _ h _ l0 l1 l2 l4
                      refine rs_ifeq (tg := 226) wi_129_200 ⟨by decide, by decide⟩ (fun q => ?_) (fun q => ?_)
                      ·
                        have h := wp_pos h q
                        exact hj226 _ h _ l0 l1 l2 l4 l5 l7
                      ·
                        have h := wp_neg h q
                        refine rs_aldn wi_129_203 l0 ?_
                        refine dq_gi wi_129_204 wf_129_883 tf_174_105 ?_
                        refine rs_ifge (tg := 226) wi_129_207 ⟨by decide, by decide⟩ (fun q => ?_) (fun q => ?_)
                        ·
                          have h := wp_pos h q
                          exact hj226 _ h _ l0 l1 l2 l4 l5 l7
                        ·
                          have h := wp_neg h q
                          refine rs_aldn wi_129_210 l0 ?_
                          refine dq_gi wi_129_211 wf_129_880 tf_174_104 ?_
                          refine rs_ifne (tg := 226) wi_129_214 ⟨by decide, by decide⟩ (fun q => ?_) (fun q => ?_)
                          ·
                            have h := wp_neg h q
                            exact hj226 _ h _ l0 l1 l2 l4 l5 l7
                          ·
                            have h := wp_pos h q
                            refine rs_aldn wi_129_217 l0 ?_
                            refine rs_ildn wi_129_218 l2 ?_
                            refine rs_ild wi_129_219 l4 ?_
                            refine rs_ildn wi_129_221 l1 ?_
                            refine rs_pure wi_129_222 rfl ?_
                            refine rs_topi (v := 0) (by decide) ?_
                            refine rs_V wi_129_223 wc_129_890 rfl (dq_isa tf_174_0 wa_15_462) (Nat.le_trans (by decide) hF) (ml_le wm_462 (Nat.le_trans (by decide) hLo)) rfl (sp_462 hw (Nat.le_trans (by decide : 3 ≤ 6 - 1) (Nat.sub_le_sub_right hF 1)) (ml_sub wm_462 (Nat.le_trans (by decide : 75 ≤ 149 - 26) (Nat.sub_le_sub_right hLo 26))) (wp_bind h) (fun r40 h => rs_back0 ?_))
                            exact hj226 _ h _ l0 l1 l2 l4 l5 l7
                    refine rs_ifeq (tg := 198) wi_129_186 ⟨by decide, by decide⟩ (fun q => ?_) (fun q => ?_)
                    ·
                      have h := wp_pos h q
                      exact hj198 _ h _ l0 l1 l2 l4 l5 l6 l7
                    ·
                      have h := wp_neg h q
                      refine rs_aldn wi_129_189 l0 ?_
                      refine rs_ildn wi_129_190 l2 ?_
                      refine rs_ild wi_129_191 l4 ?_
                      refine rs_ildn wi_129_193 l1 ?_
                      refine rs_pure wi_129_194 rfl ?_
                      refine rs_topi (v := 1) (by decide) ?_
                      refine rs_V wi_129_195 wc_129_890 rfl (dq_isa tf_174_0 wa_15_462) (Nat.le_trans (by decide) hF) (ml_le wm_462 (Nat.le_trans (by decide) hLo)) rfl (sp_462 hw (Nat.le_trans (by decide : 3 ≤ 6 - 1) (Nat.sub_le_sub_right hF 1)) (ml_sub wm_462 (Nat.le_trans (by decide : 75 ≤ 149 - 26) (Nat.sub_le_sub_right hLo 26))) (wp_bind h) (fun r41 h => rs_back0 ?_))
                      exact hj198 _ h _ l0 l1 l2 l4 l5 l6 l7
                  refine wp_jn (B := fun p42 : Unit => ∀ lv, rx_ld lv 0 = some (.ref 174) → rx_ld lv 1 = some (.int a1) → rx_ld lv 2 = some (.int v6) → rx_ld lv 4 = some (.int s21.1) → rx_ld lv 5 = some (.int v24) → rx_ld lv 6 = some (.int p27) → rs (rt_P sc fm) 129 F Lo 181 lv [] (hq false s21.2 y w) Q) h (fun p42 h lv l0 l1 l2 l4 l5 l6 => ?_) (fun j181 hj181 h => ?_)
                  ·
                    refine rs_pure wi_129_181 rfl ?_
                    refine rs_topi (v := 0) (by decide) ?_
                    exact hj182 _ h _ l0 l1 l2 l4 l5 l6
                  refine rs_iflt (tg := 181) wi_129_150 ⟨by decide, by decide⟩ (fun q => ?_) (fun q => ?_)
                  ·
                    have h := wp_pos h q
                    exact hj181 _ h _ l0 l1 l2 l4 l5 l6
                  ·
                    have h := wp_neg h q
                    refine rs_ild wi_129_153 l6 ?_
                    refine wp_jn (B := fun p43 : Unit => ∀ lv, rx_ld lv 0 = some (.ref 174) → rx_ld lv 1 = some (.int a1) → rx_ld lv 2 = some (.int v6) → rx_ld lv 4 = some (.int s21.1) → rx_ld lv 5 = some (.int v24) → rx_ld lv 6 = some (.int p27) → rs (rt_P sc fm) 129 F Lo 177 lv [] (hq false s21.2 y w) Q) h (fun p43 h lv l0 l1 l2 l4 l5 l6 => ?_) (fun j177 hj177 h => ?_)
                    ·
                      refine rs_pure wi_129_177 rfl ?_
                      refine rs_topi (v := 1) (by decide) ?_
                      refine rs_goto (tg := 182) wi_129_178 ⟨by decide, by decide⟩ ?_
                      exact hj182 _ h _ l0 l1 l2 l4 l5 l6
                    refine rs_ifeq (tg := 177) wi_129_155 ⟨by decide, by decide⟩ (fun q => ?_) (fun q => ?_)
                    ·
                      have h := wp_pos h q
                      exact hj177 _ h _ l0 l1 l2 l4 l5 l6
                    ·
                      have h := wp_neg h q
                      refine rs_aldn wi_129_158 l0 ?_
                      refine dq_gr wi_129_159 wf_129_200 tf_174_54 ?_
                      refine rs_ild wi_129_162 l5 ?_
                      obtain ⟨g44, h⟩ := wp_gd h
                      refine dq_iald wi_129_164 t_216 g44 ?_
                      refine rs_aldn wi_129_165 l0 ?_
                      refine dq_gr wi_129_166 wf_129_296 tf_174_98 ?_
                      refine rs_ild wi_129_169 l4 ?_
                      obtain ⟨g45, h⟩ := wp_gd h
                      refine dq_iald wi_129_171 t_246 g45 ?_
                      refine rs_pure wi_129_172 rfl ?_
                      refine rs_topi (v := 1) (by decide) ?_
                      refine rs_pure wi_129_173 rfl ?_
                      refine rs_icge (tg := 181) wi_129_174 ⟨by decide, by decide⟩ (fun q => ?_) (fun q => ?_)
                      ·
                        have h := wp_pos h q
                        exact hj181 _ h _ l0 l1 l2 l4 l5 l6
                      ·
                        have h := wp_neg h q
                        exact hj177 _ h _ l0 l1 l2 l4 l5 l6
                refine wp_jn (B := fun p46 : Unit => ∀ lv, rx_ld lv 0 = some (.ref 174) → rx_ld lv 1 = some (.int a1) → rx_ld lv 2 = some (.int v6) → rx_ld lv 4 = some (.int s21.1) → rx_ld lv 5 = some (.int v24) → rs (rt_P sc fm) 129 F Lo 140 lv [] (hq false s21.2 y w) Q) h (fun p46 h lv l0 l1 l2 l4 l5 => ?_) (fun j140 hj140 h => ?_)
                ·
                  refine rs_pure wi_129_140 rfl ?_
                  refine rs_topi (v := 0) (by decide) ?_
                  exact hj141 _ h _ l0 l1 l2 l4 l5
                refine rs_iceq (tg := 140) wi_129_121 ⟨by decide, by decide⟩ (fun q => ?_) (fun q => ?_)
                ·
                  have h := wp_pos h q
                  exact hj140 _ h _ l0 l1 l2 l4 l5
                ·
                  have h := wp_neg h q
                  refine rs_aldn wi_129_124 l0 ?_
                  refine dq_gr wi_129_125 wf_129_185 tf_174_49 ?_
                  refine rs_ild wi_129_128 l5 ?_
                  obtain ⟨g47, h⟩ := wp_gd h
                  refine dq_iald wi_129_130 t_211 g47 ?_
                  refine rs_pure wi_129_131 rfl ?_
                  refine rs_topi (v := 27) (by decide) ?_
                  refine rs_iceq (tg := 140) wi_129_133 ⟨by decide, by decide⟩ (fun q => ?_) (fun q => ?_)
                  ·
                    have h := wp_pos h q
                    exact hj140 _ h _ l0 l1 l2 l4 l5
                  ·
                    have h := wp_neg h q
                    refine rs_pure wi_129_136 rfl ?_
                    refine rs_topi (v := 1) (by decide) ?_
                    refine rs_goto (tg := 141) wi_129_137 ⟨by decide, by decide⟩ ?_
                    exact hj141 _ h _ l0 l1 l2 l4 l5
        ·
          intro x48 h lv l0
          refine rs_aldn wi_129_270 l0 ?_
          refine dq_gi wi_129_271 wf_129_883 tf_174_105 ?_
          refine rs_ifge (tg := 291) wi_129_274 ⟨by decide, by decide⟩ (fun q => ?_) (fun q => ?_)
          ·
            have h := wp_pos h q
            refine rs_pure wi_129_291 rfl ?_
            refine rs_topi (v := 0) (by decide) ?_
            refine dl_ist wi_129_292 rfl (fun lv l4 t49 => ?_)
            have l0 := t49 _ _ (by decide) (Or.inl rfl) l0
            refine rs_aldn wi_129_294 l0 ?_
            refine dq_gi wi_129_295 wf_129_883 tf_174_105 ?_
            obtain ⟨v51, e52, h⟩ := wp_lt h
            refine rs_topi e52 ?_
            refine dl_ist wi_129_298 rfl (fun lv l5 t50 => ?_)
            have l0 := t50 _ _ (by decide) (Or.inl rfl) l0
            have l4 := t50 _ _ (by decide) (Or.inl rfl) l4
            refine whl_ex (A := fun s53 : Int32 × Int32 => ∀ lv, rx_ld lv 0 = some (.ref 174) → rx_ld lv 4 = some (.int s53.1) → rx_ld lv 5 = some (.int s53.2) → rs (rt_P sc fm) 129 F Lo 300 lv [] (hq false x48 y w) Q) (B := (fun x61 : Int32 => ∀ lv, rx_ld lv 0 = some (.ref 174) → rx_ld lv 4 = some (.int x61) → rs (rt_P sc fm) 129 F Lo 320 lv [] (hq false x48 y w) Q)) ?_ ?_ _ _ (wp_bind h) _ l0 l4 l5
            · intro s53 h lv l0 l4 l5
              refine rs_ild wi_129_300 l5 ?_
              refine rs_iflt (tg := 320) wi_129_302 ⟨by decide, by decide⟩ (fun q => ?_) (fun q => ?_)
              ·
                have h := wp_pos h q
                exact h _ l0 l4
              ·
                have h := wp_neg h q
                obtain ⟨v55, e56, h⟩ := wp_lt h
                refine dl_inc wi_129_305 l4 rfl e56 (fun lv l4 t54 => ?_)
                have l0 := t54 _ _ (by decide) (Or.inl rfl) l0
                have l5 := t54 _ _ (by decide) (Or.inl rfl) l5
                refine rs_aldn wi_129_308 l0 ?_
                refine dq_gr wi_129_309 wf_129_299 tf_174_99 ?_
                refine rs_ild wi_129_312 l5 ?_
                obtain ⟨g57, h⟩ := wp_gd h
                refine dq_iald wi_129_314 t_247 g57 ?_
                obtain ⟨v59, e60, h⟩ := wp_lt h
                refine rs_topi e60 ?_
                refine dl_ist wi_129_315 rfl (fun lv l5 t58 => ?_)
                have l0 := t58 _ _ (by decide) (Or.inl rfl) l0
                have l4 := t58 _ _ (by decide) (Or.inl rfl) l4
                refine rs_goto (tg := 300) wi_129_317 ⟨by decide, by decide⟩ ?_
                exact h _ l0 l4 l5
            ·
              intro x61 h lv l0 l4
              refine rs_aldn wi_129_320 l0 ?_
              refine rs_ild wi_129_321 l4 ?_
              obtain ⟨c62, e63, h⟩ := wp_lt h
              refine dq_pi wi_129_323 wp_129_874 tf_174_102 rfl rfl e63 ?_
              refine rs_aldn wi_129_326 l0 ?_
              refine dq_gi wi_129_327 wf_129_883 tf_174_105 ?_
              obtain ⟨v65, e66, h⟩ := wp_lt h
              refine rs_topi e66 ?_
              refine dl_ist wi_129_330 rfl (fun lv l5 t64 => ?_)
              have l0 := t64 _ _ (by decide) (Or.inl rfl) l0
              have l4 := t64 _ _ (by decide) (Or.inl rfl) l4
              refine whl_ex (A := fun s67 : Int32 × Int32 × cS => ∀ lv, rx_ld lv 0 = some (.ref 174) → rx_ld lv 4 = some (.int s67.1) → rx_ld lv 5 = some (.int s67.2.1) → rs (rt_P sc fm) 129 F Lo 332 lv [] (hq false s67.2.2 y w) Q) (B := (fun x79 : cS => ∀ lv, rx_ld lv 0 = some (.ref 174) → rs (rt_P sc fm) 129 F Lo 366 lv [] (hq false x79 y w) Q)) ?_ ?_ _ _ (wp_bind h) _ l0 l4 l5
              · intro s67 h lv l0 l4 l5
                refine rs_ild wi_129_332 l5 ?_
                refine rs_iflt (tg := 366) wi_129_334 ⟨by decide, by decide⟩ (fun q => ?_) (fun q => ?_)
                ·
                  have h := wp_pos h q
                  exact h _ l0
                ·
                  have h := wp_neg h q
                  obtain ⟨v69, e70, h⟩ := wp_lt h
                  refine dl_inc wi_129_337 l4 rfl e70 (fun lv l4 t68 => ?_)
                  have l0 := t68 _ _ (by decide) (Or.inl rfl) l0
                  have l5 := t68 _ _ (by decide) (Or.inl rfl) l5
                  refine rs_aldn wi_129_340 l0 ?_
                  refine dq_gr wi_129_341 wf_129_305 tf_174_103 ?_
                  refine rs_ild wi_129_344 l4 ?_
                  refine rs_aldn wi_129_346 l0 ?_
                  refine dq_gr wi_129_347 wf_129_296 tf_174_98 ?_
                  refine rs_ild wi_129_350 l5 ?_
                  obtain ⟨g71, h⟩ := wp_gd h
                  refine dq_iald wi_129_352 t_246 g71 ?_
                  obtain ⟨g72, h⟩ := wp_gd h
                  obtain ⟨c73, e74, h⟩ := wp_lt h
                  refine dq_iast wi_129_353 t_249 g72 e74 ?_
                  refine rs_aldn wi_129_354 l0 ?_
                  refine dq_gr wi_129_355 wf_129_299 tf_174_99 ?_
                  refine rs_ild wi_129_358 l5 ?_
                  obtain ⟨g75, h⟩ := wp_gd h
                  refine dq_iald wi_129_360 t_247 g75 ?_
                  obtain ⟨v77, e78, h⟩ := wp_lt h
                  refine rs_topi e78 ?_
                  refine dl_ist wi_129_361 rfl (fun lv l5 t76 => ?_)
                  have l0 := t76 _ _ (by decide) (Or.inl rfl) l0
                  have l4 := t76 _ _ (by decide) (Or.inl rfl) l4
                  refine rs_goto (tg := 332) wi_129_363 ⟨by decide, by decide⟩ ?_
                  exact h _ l0 l4 l5
              ·
                intro x79 h lv l0
                refine rs_aldn wi_129_366 l0 ?_
                refine dq_gi wi_129_367 wf_129_874 tf_174_102 ?_
                exact rs_iret wi_129_370 wr_129 rfl (hQ ((x79.1 174 102), x79) h)
          ·
            have h := wp_neg h q
            refine rs_aldn wi_129_277 l0 ?_
            refine dq_gi wi_129_278 wf_129_880 tf_174_104 ?_
            refine wp_jn (B := fun p80 : Int32 => ∀ lv, rs (rt_P sc fm) 129 F Lo 290 lv [.int p80] (hq false x48 y w) Q) h (fun p80 h lv => ?_) (fun j290 hj290 h => ?_)
            ·
              exact rs_iret wi_129_290 wr_129 rfl (hQ (p80, x48) h)
            refine rs_ifeq (tg := 289) wi_129_281 ⟨by decide, by decide⟩ (fun q => ?_) (fun q => ?_)
            ·
              have h := wp_pos h q
              refine rs_pure wi_129_289 rfl ?_
              refine rs_topi (v := 0) (by decide) ?_
              exact hj290 _ h _
            ·
              have h := wp_neg h q
              refine rs_pure wi_129_284 rfl ?_
              refine rs_topi (v := (-2)) (by decide) ?_
              refine rs_goto (tg := 290) wi_129_286 ⟨by decide, by decide⟩ ?_
              exact hj290 _ h _
      ·
        have h := wp_neg h q
        exact hj24 _ h _
set_option maxRecDepth 100000 in
theorem wf_130_292 : rx_ft (rt_P sc fm) 130 292 = some (15, 97) := (by decide +kernel : rt_ft 130 292 = some (15, 97))
set_option maxRecDepth 100000 in
theorem wf_130_305 : rx_ft (rt_P sc fm) 130 305 = some (15, 103) := (by decide +kernel : rt_ft 130 305 = some (15, 103))
set_option maxRecDepth 100000 in
theorem wf_130_874 : rx_ft (rt_P sc fm) 130 874 = some (15, 102) := (by decide +kernel : rt_ft 130 874 = some (15, 102))
theorem wi_130_0 : ri (rt_P sc fm) 130 0 (.aload_n 0) (1) := ri_of (by decide +kernel) rfl
theorem wi_130_1 : ri (rt_P sc fm) 130 1 (.iconst 0) (2) := ri_of (by decide +kernel) rfl
theorem wi_130_12 : ri (rt_P sc fm) 130 12 (.iload_n 1) (13) := ri_of (by decide +kernel) rfl
theorem wi_130_13 : ri (rt_P sc fm) 130 13 (.ifCond .lt 20) (16) := ri_of (by decide +kernel) rfl
theorem wi_130_16 : ri (rt_P sc fm) 130 16 (.iload_n 1) (17) := ri_of (by decide +kernel) rfl
theorem wi_130_17 : ri (rt_P sc fm) 130 17 (.aload_n 0) (18) := ri_of (by decide +kernel) rfl
theorem wi_130_18 : ri (rt_P sc fm) 130 18 (.getfield 874) (21) := ri_of (by decide +kernel) rfl
theorem wi_130_2 : ri (rt_P sc fm) 130 2 (.putfield 356) (5) := ri_of (by decide +kernel) rfl
theorem wi_130_21 : ri (rt_P sc fm) 130 21 (.if_icmp .ge 12) (24) := ri_of (by decide +kernel) rfl
theorem wi_130_24 : ri (rt_P sc fm) 130 24 (.aload_n 0) (25) := ri_of (by decide +kernel) rfl
theorem wi_130_25 : ri (rt_P sc fm) 130 25 (.getfield 305) (28) := ri_of (by decide +kernel) rfl
theorem wi_130_28 : ri (rt_P sc fm) 130 28 (.iload_n 1) (29) := ri_of (by decide +kernel) rfl
theorem wi_130_29 : ri (rt_P sc fm) 130 29 (.iaload) (30) := ri_of (by decide +kernel) rfl
theorem wi_130_30 : ri (rt_P sc fm) 130 30 (.goto 4) (33) := ri_of (by decide +kernel) rfl
theorem wi_130_33 : ri (rt_P sc fm) 130 33 (.iconst (-1)) (34) := ri_of (by decide +kernel) rfl
theorem wi_130_34 : ri (rt_P sc fm) 130 34 (.ireturn) (35) := ri_of (by decide +kernel) rfl
theorem wi_130_5 : ri (rt_P sc fm) 130 5 (.aload_n 0) (6) := ri_of (by decide +kernel) rfl
theorem wi_130_6 : ri (rt_P sc fm) 130 6 (.getfield 292) (9) := ri_of (by decide +kernel) rfl
theorem wi_130_9 : ri (rt_P sc fm) 130 9 (.ifCond .lt 24) (12) := ri_of (by decide +kernel) rfl
set_option maxRecDepth 100000 in
theorem wp_130_356 : rx_pt (rt_P sc fm) 130 356 = some (15, 0, .int) := (by decide +kernel : rt_pt 130 356 = some (15, 0, .int))
set_option maxRecDepth 100000 in
theorem wr_130 : rx_rt (rt_P sc fm) 130 = (some FieldType.int) := (by decide +kernel : rt_rt 130 = (some FieldType.int))
/-- MarkHouseModel.step(I)I -/
def d_130 (n : Nat) (a1 : Int32) (c : cS) : Option (Int32 × cS) :=
  lt (pI c 174 0 0) (fun c1 =>
  jn (fun p3 : Int32 =>
    some (p3, c1))
  (fun j34 =>
  jn (fun p4 : Unit =>
    j34 (-1))
  (fun j33 =>
  if (c1.1 174 97) < 0 then
    j33 ()
  else
    if a1 < 0 then
      j33 ()
    else
      if (c1.1 174 102) ≤ a1 then
        j33 ()
      else
        if ib a1 400 then
        j34 (c1.1 249 (ix a1))
        else none)))
set_option maxRecDepth 100000 in
set_option maxHeartbeats 4000000 in
theorem sp_130 {F Lo n : Nat} {a1 : Int32} {c y : cS} {w : cW} {K : Int32 × cS → Prop} {Q : ((Option Value) ⊕ String) → List va_E → Prop} (hw : rOK fm w) (hF : 0 ≤ F) (hLo : 0 ≤ Lo)  (h : wp (d_130 n a1 c) K) (hQ : ∀ r, K r → Q (.inl (some (.int r.1))) (hq false r.2 y w)) : rs (rt_P sc fm) 130 F Lo 0 [(0, .ref 174), (1, .int a1)] [] (hq false c y w) Q := by
  unfold d_130 at h
  obtain ⟨lv, elv⟩ : ∃ lv : rx_L, lv = [(0, .ref 174), (1, .int a1)] := ⟨_, rfl⟩
  rw [← elv]
  have l0 : rx_ld lv 0 = some (.ref 174) := by rw [elv]; rfl
  have l1 : rx_ld lv 1 = some (.int a1) := by rw [elv]; rfl
  refine rs_aldn wi_130_0 l0 ?_
  refine rs_pure wi_130_1 rfl ?_
  refine rs_topi (v := 0) (by decide) ?_
  obtain ⟨c1, e2, h⟩ := wp_lt h
  refine dq_pi wi_130_2 wp_130_356 tf_174_0 rfl rfl e2 ?_
  refine rs_aldn wi_130_5 l0 ?_
  refine dq_gi wi_130_6 wf_130_292 tf_174_97 ?_
  refine wp_jn (B := fun p3 : Int32 => ∀ lv, rs (rt_P sc fm) 130 F Lo 34 lv [.int p3] (hq false c1 y w) Q) h (fun p3 h lv => ?_) (fun j34 hj34 h => ?_)
  ·
    exact rs_iret wi_130_34 wr_130 rfl (hQ (p3, c1) h)
  refine wp_jn (B := fun p4 : Unit => ∀ lv, rs (rt_P sc fm) 130 F Lo 33 lv [] (hq false c1 y w) Q) h (fun p4 h lv => ?_) (fun j33 hj33 h => ?_)
  ·
    refine rs_pure wi_130_33 rfl ?_
    refine rs_topi (v := (-1)) (by decide) ?_
    exact hj34 _ h _
  refine rs_iflt (tg := 33) wi_130_9 ⟨by decide, by decide⟩ (fun q => ?_) (fun q => ?_)
  ·
    have h := wp_pos h q
    exact hj33 _ h _
  ·
    have h := wp_neg h q
    refine rs_ildn wi_130_12 l1 ?_
    refine rs_iflt (tg := 33) wi_130_13 ⟨by decide, by decide⟩ (fun q => ?_) (fun q => ?_)
    ·
      have h := wp_pos h q
      exact hj33 _ h _
    ·
      have h := wp_neg h q
      refine rs_ildn wi_130_16 l1 ?_
      refine rs_aldn wi_130_17 l0 ?_
      refine dq_gi wi_130_18 wf_130_874 tf_174_102 ?_
      refine rs_icge (tg := 33) wi_130_21 ⟨by decide, by decide⟩ (fun q => ?_) (fun q => ?_)
      ·
        have h := wp_pos h q
        exact hj33 _ h _
      ·
        have h := wp_neg h q
        refine rs_aldn wi_130_24 l0 ?_
        refine dq_gr wi_130_25 wf_130_305 tf_174_103 ?_
        refine rs_ildn wi_130_28 l1 ?_
        obtain ⟨g5, h⟩ := wp_gd h
        refine dq_iald wi_130_29 t_249 g5 ?_
        refine rs_goto (tg := 34) wi_130_30 ⟨by decide, by decide⟩ ?_
        exact hj34 _ h _
set_option maxRecDepth 100000 in
theorem wc_131_535 : rx_ct (rt_P sc fm) 131 535 = some (0, 387, 3) := (by decide +kernel : rt_ct 131 535 = some (0, 387, 3))
set_option maxRecDepth 100000 in
theorem wc_131_614 : rx_ct (rt_P sc fm) 131 614 = some (0, 105, 1) := (by decide +kernel : rt_ct 131 614 = some (0, 105, 1))
set_option maxRecDepth 100000 in
theorem wc_131_637 : rx_ct (rt_P sc fm) 131 637 = some (0, 133, 0) := (by decide +kernel : rt_ct 131 637 = some (0, 133, 0))
set_option maxRecDepth 100000 in
theorem wc_131_712 : rx_ct (rt_P sc fm) 131 712 = some (0, 428, 2) := (by decide +kernel : rt_ct 131 712 = some (0, 428, 2))
set_option maxRecDepth 100000 in
theorem wc_131_724 : rx_ct (rt_P sc fm) 131 724 = some (0, 119, 1) := (by decide +kernel : rt_ct 131 724 = some (0, 119, 1))
set_option maxRecDepth 100000 in
theorem wc_131_727 : rx_ct (rt_P sc fm) 131 727 = some (0, 390, 3) := (by decide +kernel : rt_ct 131 727 = some (0, 390, 3))
set_option maxRecDepth 100000 in
theorem wc_131_829 : rx_ct (rt_P sc fm) 131 829 = some (0, 112, 1) := (by decide +kernel : rt_ct 131 829 = some (0, 112, 1))
set_option maxRecDepth 100000 in
theorem wc_131_853 : rx_ct (rt_P sc fm) 131 853 = some (0, 457, 1) := (by decide +kernel : rt_ct 131 853 = some (0, 457, 1))
set_option maxRecDepth 100000 in
theorem wc_131_856 : rx_ct (rt_P sc fm) 131 856 = some (0, 450, 1) := (by decide +kernel : rt_ct 131 856 = some (0, 450, 1))
set_option maxRecDepth 100000 in
theorem wc_131_862 : rx_ct (rt_P sc fm) 131 862 = some (0, 456, 2) := (by decide +kernel : rt_ct 131 862 = some (0, 456, 2))
set_option maxRecDepth 100000 in
theorem wc_131_865 : rx_ct (rt_P sc fm) 131 865 = some (0, 459, 2) := (by decide +kernel : rt_ct 131 865 = some (0, 459, 2))
set_option maxRecDepth 100000 in
theorem wc_131_868 : rx_ct (rt_P sc fm) 131 868 = some (0, 458, 3) := (by decide +kernel : rt_ct 131 868 = some (0, 458, 3))
set_option maxRecDepth 100000 in
theorem wf_131_116 : rx_ft (rt_P sc fm) 131 116 = some (15, 23) := (by decide +kernel : rt_ft 131 116 = some (15, 23))
set_option maxRecDepth 100000 in
theorem wf_131_182 : rx_ft (rt_P sc fm) 131 182 = some (15, 48) := (by decide +kernel : rt_ft 131 182 = some (15, 48))
set_option maxRecDepth 100000 in
theorem wf_131_243 : rx_ft (rt_P sc fm) 131 243 = some (15, 70) := (by decide +kernel : rt_ft 131 243 = some (15, 70))
set_option maxRecDepth 100000 in
theorem wf_131_258 : rx_ft (rt_P sc fm) 131 258 = some (15, 84) := (by decide +kernel : rt_ft 131 258 = some (15, 84))
set_option maxRecDepth 100000 in
theorem wf_131_264 : rx_ft (rt_P sc fm) 131 264 = some (15, 86) := (by decide +kernel : rt_ft 131 264 = some (15, 86))
set_option maxRecDepth 100000 in
theorem wf_131_268 : rx_ft (rt_P sc fm) 131 268 = some (15, 87) := (by decide +kernel : rt_ft 131 268 = some (15, 87))
set_option maxRecDepth 100000 in
theorem wf_131_271 : rx_ft (rt_P sc fm) 131 271 = some (15, 88) := (by decide +kernel : rt_ft 131 271 = some (15, 88))
set_option maxRecDepth 100000 in
theorem wf_131_678 : rx_ft (rt_P sc fm) 131 678 = some (15, 74) := (by decide +kernel : rt_ft 131 678 = some (15, 74))
theorem wi_131_0 : ri (rt_P sc fm) 131 0 (.aload_n 0) (1) := ri_of (by decide +kernel) rfl
theorem wi_131_1 : ri (rt_P sc fm) 131 1 (.iconst 0) (2) := ri_of (by decide +kernel) rfl
theorem wi_131_10 : ri (rt_P sc fm) 131 10 (.ifCond .ne 5) (13) := ri_of (by decide +kernel) rfl
theorem wi_131_100 : ri (rt_P sc fm) 131 100 (.iconst 0) (101) := ri_of (by decide +kernel) rfl
theorem wi_131_101 : ri (rt_P sc fm) 131 101 (.istore 4) (103) := ri_of (by decide +kernel) rfl
theorem wi_131_103 : ri (rt_P sc fm) 131 103 (.iload 4) (105) := ri_of (by decide +kernel) rfl
theorem wi_131_105 : ri (rt_P sc fm) 131 105 (.bipush 96) (107) := ri_of (by decide +kernel) rfl
theorem wi_131_107 : ri (rt_P sc fm) 131 107 (.if_icmp .ge 206) (110) := ri_of (by decide +kernel) rfl
theorem wi_131_110 : ri (rt_P sc fm) 131 110 (.aload_n 0) (111) := ri_of (by decide +kernel) rfl
theorem wi_131_111 : ri (rt_P sc fm) 131 111 (.iload 4) (113) := ri_of (by decide +kernel) rfl
theorem wi_131_113 : ri (rt_P sc fm) 131 113 (.invokevirtual 614) (116) := ri_of (by decide +kernel) rfl
theorem wi_131_116 : ri (rt_P sc fm) 131 116 (.ifCond .ne 6) (119) := ri_of (by decide +kernel) rfl
theorem wi_131_119 : ri (rt_P sc fm) 131 119 (.goto 188) (122) := ri_of (by decide +kernel) rfl
theorem wi_131_122 : ri (rt_P sc fm) 131 122 (.aload_n 0) (123) := ri_of (by decide +kernel) rfl
theorem wi_131_123 : ri (rt_P sc fm) 131 123 (.iload 4) (125) := ri_of (by decide +kernel) rfl
theorem wi_131_125 : ri (rt_P sc fm) 131 125 (.iload_n 1) (126) := ri_of (by decide +kernel) rfl
theorem wi_131_126 : ri (rt_P sc fm) 131 126 (.invokevirtual 862) (129) := ri_of (by decide +kernel) rfl
theorem wi_131_129 : ri (rt_P sc fm) 131 129 (.bipush 40) (131) := ri_of (by decide +kernel) rfl
theorem wi_131_13 : ri (rt_P sc fm) 131 13 (.iconst (-1)) (14) := ri_of (by decide +kernel) rfl
theorem wi_131_131 : ri (rt_P sc fm) 131 131 (.iload 4) (133) := ri_of (by decide +kernel) rfl
theorem wi_131_133 : ri (rt_P sc fm) 131 133 (.imul) (134) := ri_of (by decide +kernel) rfl
theorem wi_131_134 : ri (rt_P sc fm) 131 134 (.istore 5) (136) := ri_of (by decide +kernel) rfl
theorem wi_131_136 : ri (rt_P sc fm) 131 136 (.iload 5) (138) := ri_of (by decide +kernel) rfl
theorem wi_131_138 : ri (rt_P sc fm) 131 138 (.bipush 40) (140) := ri_of (by decide +kernel) rfl
theorem wi_131_14 : ri (rt_P sc fm) 131 14 (.ireturn) (15) := ri_of (by decide +kernel) rfl
theorem wi_131_140 : ri (rt_P sc fm) 131 140 (.iload 4) (142) := ri_of (by decide +kernel) rfl
theorem wi_131_142 : ri (rt_P sc fm) 131 142 (.imul) (143) := ri_of (by decide +kernel) rfl
theorem wi_131_143 : ri (rt_P sc fm) 131 143 (.aload_n 0) (144) := ri_of (by decide +kernel) rfl
theorem wi_131_144 : ri (rt_P sc fm) 131 144 (.getfield 182) (147) := ri_of (by decide +kernel) rfl
theorem wi_131_147 : ri (rt_P sc fm) 131 147 (.iload 4) (149) := ri_of (by decide +kernel) rfl
theorem wi_131_149 : ri (rt_P sc fm) 131 149 (.iaload) (150) := ri_of (by decide +kernel) rfl
theorem wi_131_15 : ri (rt_P sc fm) 131 15 (.aload_n 0) (16) := ri_of (by decide +kernel) rfl
theorem wi_131_150 : ri (rt_P sc fm) 131 150 (.iadd) (151) := ri_of (by decide +kernel) rfl
theorem wi_131_151 : ri (rt_P sc fm) 131 151 (.if_icmp .ge 156) (154) := ri_of (by decide +kernel) rfl
theorem wi_131_154 : ri (rt_P sc fm) 131 154 (.iconst 0) (155) := ri_of (by decide +kernel) rfl
theorem wi_131_155 : ri (rt_P sc fm) 131 155 (.istore 6) (157) := ri_of (by decide +kernel) rfl
theorem wi_131_157 : ri (rt_P sc fm) 131 157 (.iload 6) (159) := ri_of (by decide +kernel) rfl
theorem wi_131_159 : ri (rt_P sc fm) 131 159 (.aload_n 0) (160) := ri_of (by decide +kernel) rfl
theorem wi_131_16 : ri (rt_P sc fm) 131 16 (.invokevirtual 637) (19) := ri_of (by decide +kernel) rfl
theorem wi_131_160 : ri (rt_P sc fm) 131 160 (.iload 5) (162) := ri_of (by decide +kernel) rfl
theorem wi_131_162 : ri (rt_P sc fm) 131 162 (.invokevirtual 853) (165) := ri_of (by decide +kernel) rfl
theorem wi_131_165 : ri (rt_P sc fm) 131 165 (.if_icmp .ge 136) (168) := ri_of (by decide +kernel) rfl
theorem wi_131_168 : ri (rt_P sc fm) 131 168 (.aload_n 0) (169) := ri_of (by decide +kernel) rfl
theorem wi_131_169 : ri (rt_P sc fm) 131 169 (.getfield 271) (172) := ri_of (by decide +kernel) rfl
theorem wi_131_172 : ri (rt_P sc fm) 131 172 (.iload 5) (174) := ri_of (by decide +kernel) rfl
theorem wi_131_174 : ri (rt_P sc fm) 131 174 (.baload) (175) := ri_of (by decide +kernel) rfl
theorem wi_131_175 : ri (rt_P sc fm) 131 175 (.ifCond .eq 126) (178) := ri_of (by decide +kernel) rfl
theorem wi_131_178 : ri (rt_P sc fm) 131 178 (.aload_n 0) (179) := ri_of (by decide +kernel) rfl
theorem wi_131_179 : ri (rt_P sc fm) 131 179 (.iload 4) (181) := ri_of (by decide +kernel) rfl
theorem wi_131_181 : ri (rt_P sc fm) 131 181 (.iload 5) (183) := ri_of (by decide +kernel) rfl
theorem wi_131_183 : ri (rt_P sc fm) 131 183 (.iload 6) (185) := ri_of (by decide +kernel) rfl
theorem wi_131_185 : ri (rt_P sc fm) 131 185 (.invokevirtual 868) (188) := ri_of (by decide +kernel) rfl
theorem wi_131_188 : ri (rt_P sc fm) 131 188 (.istore 7) (190) := ri_of (by decide +kernel) rfl
theorem wi_131_19 : ri (rt_P sc fm) 131 19 (.iconst 0) (20) := ri_of (by decide +kernel) rfl
theorem wi_131_190 : ri (rt_P sc fm) 131 190 (.aload_n 0) (191) := ri_of (by decide +kernel) rfl
theorem wi_131_191 : ri (rt_P sc fm) 131 191 (.getfield 268) (194) := ri_of (by decide +kernel) rfl
theorem wi_131_194 : ri (rt_P sc fm) 131 194 (.bipush 16) (196) := ri_of (by decide +kernel) rfl
theorem wi_131_196 : ri (rt_P sc fm) 131 196 (.iload 5) (198) := ri_of (by decide +kernel) rfl
theorem wi_131_198 : ri (rt_P sc fm) 131 198 (.imul) (199) := ri_of (by decide +kernel) rfl
theorem wi_131_199 : ri (rt_P sc fm) 131 199 (.bipush 8) (201) := ri_of (by decide +kernel) rfl
theorem wi_131_2 : ri (rt_P sc fm) 131 2 (.putfield 356) (5) := ri_of (by decide +kernel) rfl
theorem wi_131_20 : ri (rt_P sc fm) 131 20 (.istore_n 2) (21) := ri_of (by decide +kernel) rfl
theorem wi_131_201 : ri (rt_P sc fm) 131 201 (.iadd) (202) := ri_of (by decide +kernel) rfl
theorem wi_131_202 : ri (rt_P sc fm) 131 202 (.aload_n 0) (203) := ri_of (by decide +kernel) rfl
theorem wi_131_203 : ri (rt_P sc fm) 131 203 (.getfield 243) (206) := ri_of (by decide +kernel) rfl
theorem wi_131_206 : ri (rt_P sc fm) 131 206 (.iload 5) (208) := ri_of (by decide +kernel) rfl
theorem wi_131_208 : ri (rt_P sc fm) 131 208 (.iaload) (209) := ri_of (by decide +kernel) rfl
theorem wi_131_209 : ri (rt_P sc fm) 131 209 (.iadd) (210) := ri_of (by decide +kernel) rfl
theorem wi_131_21 : ri (rt_P sc fm) 131 21 (.iconst 0) (22) := ri_of (by decide +kernel) rfl
theorem wi_131_210 : ri (rt_P sc fm) 131 210 (.iconst 1) (211) := ri_of (by decide +kernel) rfl
theorem wi_131_211 : ri (rt_P sc fm) 131 211 (.isub) (212) := ri_of (by decide +kernel) rfl
theorem wi_131_212 : ri (rt_P sc fm) 131 212 (.aload_n 0) (213) := ri_of (by decide +kernel) rfl
theorem wi_131_213 : ri (rt_P sc fm) 131 213 (.iload 5) (215) := ri_of (by decide +kernel) rfl
theorem wi_131_215 : ri (rt_P sc fm) 131 215 (.iload 6) (217) := ri_of (by decide +kernel) rfl
theorem wi_131_217 : ri (rt_P sc fm) 131 217 (.invokevirtual 865) (220) := ri_of (by decide +kernel) rfl
theorem wi_131_22 : ri (rt_P sc fm) 131 22 (.istore_n 3) (23) := ri_of (by decide +kernel) rfl
theorem wi_131_220 : ri (rt_P sc fm) 131 220 (.isub) (221) := ri_of (by decide +kernel) rfl
theorem wi_131_221 : ri (rt_P sc fm) 131 221 (.iaload) (222) := ri_of (by decide +kernel) rfl
theorem wi_131_222 : ri (rt_P sc fm) 131 222 (.istore 8) (224) := ri_of (by decide +kernel) rfl
theorem wi_131_224 : ri (rt_P sc fm) 131 224 (.aload_n 0) (225) := ri_of (by decide +kernel) rfl
theorem wi_131_225 : ri (rt_P sc fm) 131 225 (.getfield 264) (228) := ri_of (by decide +kernel) rfl
theorem wi_131_228 : ri (rt_P sc fm) 131 228 (.iload 7) (230) := ri_of (by decide +kernel) rfl
theorem wi_131_23 : ri (rt_P sc fm) 131 23 (.iload_n 3) (24) := ri_of (by decide +kernel) rfl
theorem wi_131_230 : ri (rt_P sc fm) 131 230 (.baload) (231) := ri_of (by decide +kernel) rfl
theorem wi_131_231 : ri (rt_P sc fm) 131 231 (.ifCond .ne 64) (234) := ri_of (by decide +kernel) rfl
theorem wi_131_234 : ri (rt_P sc fm) 131 234 (.aload_n 0) (235) := ri_of (by decide +kernel) rfl
theorem wi_131_235 : ri (rt_P sc fm) 131 235 (.iload_n 1) (236) := ri_of (by decide +kernel) rfl
theorem wi_131_236 : ri (rt_P sc fm) 131 236 (.iload 8) (238) := ri_of (by decide +kernel) rfl
theorem wi_131_238 : ri (rt_P sc fm) 131 238 (.aload_n 0) (239) := ri_of (by decide +kernel) rfl
theorem wi_131_239 : ri (rt_P sc fm) 131 239 (.getfield 258) (242) := ri_of (by decide +kernel) rfl
theorem wi_131_24 : ri (rt_P sc fm) 131 24 (.sipush 1200) (27) := ri_of (by decide +kernel) rfl
theorem wi_131_242 : ri (rt_P sc fm) 131 242 (.sipush 1200) (245) := ri_of (by decide +kernel) rfl
theorem wi_131_245 : ri (rt_P sc fm) 131 245 (.iload_n 1) (246) := ri_of (by decide +kernel) rfl
theorem wi_131_246 : ri (rt_P sc fm) 131 246 (.imul) (247) := ri_of (by decide +kernel) rfl
theorem wi_131_247 : ri (rt_P sc fm) 131 247 (.iload 7) (249) := ri_of (by decide +kernel) rfl
theorem wi_131_249 : ri (rt_P sc fm) 131 249 (.iadd) (250) := ri_of (by decide +kernel) rfl
theorem wi_131_250 : ri (rt_P sc fm) 131 250 (.iaload) (251) := ri_of (by decide +kernel) rfl
theorem wi_131_251 : ri (rt_P sc fm) 131 251 (.invokevirtual 535) (254) := ri_of (by decide +kernel) rfl
theorem wi_131_254 : ri (rt_P sc fm) 131 254 (.ifCond .eq 6) (257) := ri_of (by decide +kernel) rfl
theorem wi_131_257 : ri (rt_P sc fm) 131 257 (.goto 38) (260) := ri_of (by decide +kernel) rfl
theorem wi_131_260 : ri (rt_P sc fm) 131 260 (.aload_n 0) (261) := ri_of (by decide +kernel) rfl
theorem wi_131_261 : ri (rt_P sc fm) 131 261 (.getfield 258) (264) := ri_of (by decide +kernel) rfl
theorem wi_131_264 : ri (rt_P sc fm) 131 264 (.sipush 1200) (267) := ri_of (by decide +kernel) rfl
theorem wi_131_267 : ri (rt_P sc fm) 131 267 (.iload_n 1) (268) := ri_of (by decide +kernel) rfl
theorem wi_131_268 : ri (rt_P sc fm) 131 268 (.imul) (269) := ri_of (by decide +kernel) rfl
theorem wi_131_269 : ri (rt_P sc fm) 131 269 (.iload 7) (271) := ri_of (by decide +kernel) rfl
theorem wi_131_27 : ri (rt_P sc fm) 131 27 (.if_icmp .ge 60) (30) := ri_of (by decide +kernel) rfl
theorem wi_131_271 : ri (rt_P sc fm) 131 271 (.iadd) (272) := ri_of (by decide +kernel) rfl
theorem wi_131_272 : ri (rt_P sc fm) 131 272 (.aload_n 0) (273) := ri_of (by decide +kernel) rfl
theorem wi_131_273 : ri (rt_P sc fm) 131 273 (.iload_n 1) (274) := ri_of (by decide +kernel) rfl
theorem wi_131_274 : ri (rt_P sc fm) 131 274 (.iload 8) (276) := ri_of (by decide +kernel) rfl
theorem wi_131_276 : ri (rt_P sc fm) 131 276 (.aload_n 0) (277) := ri_of (by decide +kernel) rfl
theorem wi_131_277 : ri (rt_P sc fm) 131 277 (.getfield 258) (280) := ri_of (by decide +kernel) rfl
theorem wi_131_280 : ri (rt_P sc fm) 131 280 (.sipush 1200) (283) := ri_of (by decide +kernel) rfl
theorem wi_131_283 : ri (rt_P sc fm) 131 283 (.iload_n 1) (284) := ri_of (by decide +kernel) rfl
theorem wi_131_284 : ri (rt_P sc fm) 131 284 (.imul) (285) := ri_of (by decide +kernel) rfl
theorem wi_131_285 : ri (rt_P sc fm) 131 285 (.iload 7) (287) := ri_of (by decide +kernel) rfl
theorem wi_131_287 : ri (rt_P sc fm) 131 287 (.iadd) (288) := ri_of (by decide +kernel) rfl
theorem wi_131_288 : ri (rt_P sc fm) 131 288 (.iaload) (289) := ri_of (by decide +kernel) rfl
theorem wi_131_289 : ri (rt_P sc fm) 131 289 (.invokevirtual 727) (292) := ri_of (by decide +kernel) rfl
theorem wi_131_292 : ri (rt_P sc fm) 131 292 (.iastore) (293) := ri_of (by decide +kernel) rfl
theorem wi_131_293 : ri (rt_P sc fm) 131 293 (.iconst 1) (294) := ri_of (by decide +kernel) rfl
theorem wi_131_294 : ri (rt_P sc fm) 131 294 (.istore_n 3) (295) := ri_of (by decide +kernel) rfl
theorem wi_131_295 : ri (rt_P sc fm) 131 295 (.iinc 6 1) (298) := ri_of (by decide +kernel) rfl
theorem wi_131_298 : ri (rt_P sc fm) 131 298 (.goto (-141)) (301) := ri_of (by decide +kernel) rfl
theorem wi_131_30 : ri (rt_P sc fm) 131 30 (.aload_n 0) (31) := ri_of (by decide +kernel) rfl
theorem wi_131_301 : ri (rt_P sc fm) 131 301 (.iinc 5 1) (304) := ri_of (by decide +kernel) rfl
theorem wi_131_304 : ri (rt_P sc fm) 131 304 (.goto (-168)) (307) := ri_of (by decide +kernel) rfl
theorem wi_131_307 : ri (rt_P sc fm) 131 307 (.iinc 4 1) (310) := ri_of (by decide +kernel) rfl
theorem wi_131_31 : ri (rt_P sc fm) 131 31 (.iload_n 3) (32) := ri_of (by decide +kernel) rfl
theorem wi_131_310 : ri (rt_P sc fm) 131 310 (.goto (-207)) (313) := ri_of (by decide +kernel) rfl
theorem wi_131_313 : ri (rt_P sc fm) 131 313 (.goto (-224)) (316) := ri_of (by decide +kernel) rfl
theorem wi_131_316 : ri (rt_P sc fm) 131 316 (.iload_n 2) (317) := ri_of (by decide +kernel) rfl
theorem wi_131_317 : ri (rt_P sc fm) 131 317 (.ireturn) (318) := ri_of (by decide +kernel) rfl
theorem wi_131_32 : ri (rt_P sc fm) 131 32 (.invokevirtual 829) (35) := ri_of (by decide +kernel) rfl
theorem wi_131_35 : ri (rt_P sc fm) 131 35 (.ifCond .ne 6) (38) := ri_of (by decide +kernel) rfl
theorem wi_131_38 : ri (rt_P sc fm) 131 38 (.goto 43) (41) := ri_of (by decide +kernel) rfl
theorem wi_131_41 : ri (rt_P sc fm) 131 41 (.aload_n 0) (42) := ri_of (by decide +kernel) rfl
theorem wi_131_42 : ri (rt_P sc fm) 131 42 (.iload_n 3) (43) := ri_of (by decide +kernel) rfl
theorem wi_131_43 : ri (rt_P sc fm) 131 43 (.bipush 100) (45) := ri_of (by decide +kernel) rfl
theorem wi_131_45 : ri (rt_P sc fm) 131 45 (.iload_n 1) (46) := ri_of (by decide +kernel) rfl
theorem wi_131_46 : ri (rt_P sc fm) 131 46 (.iadd) (47) := ri_of (by decide +kernel) rfl
theorem wi_131_47 : ri (rt_P sc fm) 131 47 (.invokevirtual 712) (50) := ri_of (by decide +kernel) rfl
theorem wi_131_5 : ri (rt_P sc fm) 131 5 (.aload_n 0) (6) := ri_of (by decide +kernel) rfl
theorem wi_131_50 : ri (rt_P sc fm) 131 50 (.aload_n 0) (51) := ri_of (by decide +kernel) rfl
theorem wi_131_51 : ri (rt_P sc fm) 131 51 (.getfield 678) (54) := ri_of (by decide +kernel) rfl
theorem wi_131_54 : ri (rt_P sc fm) 131 54 (.ifCond .le 6) (57) := ri_of (by decide +kernel) rfl
theorem wi_131_57 : ri (rt_P sc fm) 131 57 (.goto 24) (60) := ri_of (by decide +kernel) rfl
theorem wi_131_6 : ri (rt_P sc fm) 131 6 (.iload_n 1) (7) := ri_of (by decide +kernel) rfl
theorem wi_131_60 : ri (rt_P sc fm) 131 60 (.aload_n 0) (61) := ri_of (by decide +kernel) rfl
theorem wi_131_61 : ri (rt_P sc fm) 131 61 (.getfield 258) (64) := ri_of (by decide +kernel) rfl
theorem wi_131_64 : ri (rt_P sc fm) 131 64 (.sipush 1200) (67) := ri_of (by decide +kernel) rfl
theorem wi_131_67 : ri (rt_P sc fm) 131 67 (.iload_n 1) (68) := ri_of (by decide +kernel) rfl
theorem wi_131_68 : ri (rt_P sc fm) 131 68 (.imul) (69) := ri_of (by decide +kernel) rfl
theorem wi_131_69 : ri (rt_P sc fm) 131 69 (.iload_n 3) (70) := ri_of (by decide +kernel) rfl
theorem wi_131_7 : ri (rt_P sc fm) 131 7 (.invokevirtual 724) (10) := ri_of (by decide +kernel) rfl
theorem wi_131_70 : ri (rt_P sc fm) 131 70 (.iadd) (71) := ri_of (by decide +kernel) rfl
theorem wi_131_71 : ri (rt_P sc fm) 131 71 (.aload_n 0) (72) := ri_of (by decide +kernel) rfl
theorem wi_131_72 : ri (rt_P sc fm) 131 72 (.getfield 116) (75) := ri_of (by decide +kernel) rfl
theorem wi_131_75 : ri (rt_P sc fm) 131 75 (.iload_n 1) (76) := ri_of (by decide +kernel) rfl
theorem wi_131_76 : ri (rt_P sc fm) 131 76 (.iaload) (77) := ri_of (by decide +kernel) rfl
theorem wi_131_77 : ri (rt_P sc fm) 131 77 (.iastore) (78) := ri_of (by decide +kernel) rfl
theorem wi_131_78 : ri (rt_P sc fm) 131 78 (.iinc 2 1) (81) := ri_of (by decide +kernel) rfl
theorem wi_131_81 : ri (rt_P sc fm) 131 81 (.iinc 3 1) (84) := ri_of (by decide +kernel) rfl
theorem wi_131_84 : ri (rt_P sc fm) 131 84 (.goto (-61)) (87) := ri_of (by decide +kernel) rfl
theorem wi_131_87 : ri (rt_P sc fm) 131 87 (.iconst 1) (88) := ri_of (by decide +kernel) rfl
theorem wi_131_88 : ri (rt_P sc fm) 131 88 (.istore_n 3) (89) := ri_of (by decide +kernel) rfl
theorem wi_131_89 : ri (rt_P sc fm) 131 89 (.iload_n 3) (90) := ri_of (by decide +kernel) rfl
theorem wi_131_90 : ri (rt_P sc fm) 131 90 (.ifCond .eq 226) (93) := ri_of (by decide +kernel) rfl
theorem wi_131_93 : ri (rt_P sc fm) 131 93 (.iconst 0) (94) := ri_of (by decide +kernel) rfl
theorem wi_131_94 : ri (rt_P sc fm) 131 94 (.istore_n 3) (95) := ri_of (by decide +kernel) rfl
theorem wi_131_95 : ri (rt_P sc fm) 131 95 (.aload_n 0) (96) := ri_of (by decide +kernel) rfl
theorem wi_131_96 : ri (rt_P sc fm) 131 96 (.iload_n 1) (97) := ri_of (by decide +kernel) rfl
theorem wi_131_97 : ri (rt_P sc fm) 131 97 (.invokevirtual 856) (100) := ri_of (by decide +kernel) rfl
set_option maxRecDepth 100000 in
theorem wp_131_356 : rx_pt (rt_P sc fm) 131 356 = some (15, 0, .int) := (by decide +kernel : rt_pt 131 356 = some (15, 0, .int))
set_option maxRecDepth 100000 in
theorem wr_131 : rx_rt (rt_P sc fm) 131 = (some FieldType.int) := (by decide +kernel : rt_rt 131 = (some FieldType.int))
/-- MarkHouseModel.find(I)I -/
def d_131 (n : Nat) (a1 : Int32) (c : cS) : Option (Int32 × cS) :=
  lt (pI c 174 0 0) (fun c1 =>
  Option.bind (d_119 n a1 c1) (fun v3 =>
  if v3 = 0 then
    some ((-1), c1)
  else
    Option.bind (d_133 n c1) (fun r4 =>
    Option.bind (whl (R := (Int32 × cS)) (fun s7 : Int32 × Int32 × cS =>
      if 1200 ≤ s7.2.1 then
        some (.inr (s7.1, s7.2.2))
      else
        Option.bind (d_112 n s7.2.1 s7.2.2) (fun v8 =>
        jn (fun p9 : Int32 × cS =>
          lt (s7.2.1 + 1 : Int32) (fun v11 =>
          some (.inl (p9.1, v11, p9.2))))
        (fun j81 =>
        if v8 = 0 then
          j81 (s7.1, s7.2.2)
        else
          Option.bind (d_428 n s7.2.1 (100 + a1) s7.2.2) (fun r13 =>
          if (r13.1 174 74) ≤ 0 then
            if ib a1 4 then
            if ib ((1200 * a1) + s7.2.1) 4800 then
            lt (pI r13 235 (ix ((1200 * a1) + s7.2.1)) (r13.1 188 (ix a1))) (fun c16 =>
            lt (s7.1 + 1 : Int32) (fun v19 =>
            j81 (v19, c16)))
            else none
            else none
          else
            j81 (s7.1, r13))))) n (0, 0, r4))
    (fun x21 : Int32 × cS =>
      Option.bind (whl (R := (cS)) (fun s23 : Int32 × cS =>
        if s23.1 = 0 then
          some (.inr s23.2)
        else
          Option.bind (d_450 n a1 s23.2) (fun r25 =>
          Option.bind (whl (R := (Int32 × cS)) (fun s27 : Int32 × Int32 × cS =>
            if 96 ≤ s27.2.1 then
              some (.inr (s27.1, s27.2.2))
            else
              Option.bind (d_105 n s27.2.1 s27.2.2) (fun v28 =>
              jn (fun p29 : Int32 × cS =>
                lt (s27.2.1 + 1 : Int32) (fun v31 =>
                some (.inl (p29.1, v31, p29.2))))
              (fun j307 =>
              if v28 = 0 then
                j307 (s27.1, s27.2.2)
              else
                Option.bind (d_456 n s27.2.1 a1 s27.2.2) (fun r33 =>
                lt ((40 * s27.2.1) : Int32) (fun v35 =>
                Option.bind (whl (R := (Int32 × cS)) (fun s37 : Int32 × Int32 × cS =>
                  if ib s27.2.1 96 then
                  if ((40 * s27.2.1) + (s37.2.2.1 210 (ix s27.2.1))) ≤ s37.2.1 then
                    some (.inr (s37.1, s37.2.2))
                  else
                    Option.bind (whl (R := (Int32 × cS)) (fun s40 : Int32 × Int32 × cS =>
                      Option.bind (d_457 n s37.2.1 s40.2.2) (fun v41 =>
                      if v41 ≤ s40.2.1 then
                        some (.inr (s40.1, s40.2.2))
                      else
                        if ib s37.2.1 3840 then
                        if (s40.2.2.1 239 (ix s37.2.1)) = 0 then
                          some (.inr (s40.1, s40.2.2))
                        else
                          Option.bind (d_458 n s27.2.1 s37.2.1 s40.2.1 s40.2.2) (fun v43 =>
                          if ib s37.2.1 3840 then
                          Option.bind (d_459 n s37.2.1 s40.2.1 s40.2.2) (fun v46 =>
                          if ib (((((16 * s37.2.1) + 8) + (s40.2.2.1 230 (ix s37.2.1))) - 1) - v46) 61440 then
                          lt ((s40.2.2.1 238 (ix (((((16 * s37.2.1) + 8) + (s40.2.2.1 230 (ix s37.2.1))) - 1) - v46))) : Int32) (fun v49 =>
                          if ib v43 1200 then
                          jn (fun p52 : Int32 × cS =>
                            lt (s40.2.1 + 1 : Int32) (fun v54 =>
                            some (.inl (p52.1, v54, p52.2))))
                          (fun j295 =>
                          if (s40.2.2.1 237 (ix v43)) = 0 then
                            if ib ((1200 * a1) + v43) 4800 then
                            Option.bind (d_387 n a1 v49 (s40.2.2.1 235 (ix ((1200 * a1) + v43))) s40.2.2) (fun v57 =>
                            if v57 = 0 then
                              if ib ((1200 * a1) + v43) 4800 then
                              Option.bind (d_390 n a1 v49 (s40.2.2.1 235 (ix ((1200 * a1) + v43))) s40.2.2) (fun v59 =>
                              if ib ((1200 * a1) + v43) 4800 then
                              lt (pI s40.2.2 235 (ix ((1200 * a1) + v43)) v59) (fun c61 =>
                              j295 (1, c61))
                              else none)
                              else none
                            else
                              j295 (s40.1, s40.2.2))
                            else none
                          else
                            j295 (s40.1, s40.2.2))
                          else none)
                          else none)
                          else none)
                        else none)) n (s37.1, 0, s37.2.2))
                    (fun x64 : Int32 × cS =>
                      lt (s37.2.1 + 1 : Int32) (fun v66 =>
                      some (.inl (x64.1, v66, x64.2))))
                  else none) n (s27.1, v35, r33))
                (fun x68 : Int32 × cS =>
                  j307 (x68.1, x68.2))))))) n (0, 0, r25))
          (fun x69 : Int32 × cS =>
            some (.inl (x69.1, x69.2))))) n (1, x21.2))
      (fun x70 : cS =>
        some (x21.1, x70))))))
set_option maxRecDepth 100000 in
set_option maxHeartbeats 4000000 in
theorem sp_131 {F Lo n : Nat} {a1 : Int32} {c y : cS} {w : cW} {K : Int32 × cS → Prop} {Q : ((Option Value) ⊕ String) → List va_E → Prop} (hw : rOK fm w) (hF : 6 ≤ F) (hLo : 149 ≤ Lo)  (h : wp (d_131 n a1 c) K) (hQ : ∀ r, K r → Q (.inl (some (.int r.1))) (hq false r.2 y w)) : rs (rt_P sc fm) 131 F Lo 0 [(0, .ref 174), (1, .int a1)] [] (hq false c y w) Q := by
  unfold d_131 at h
  obtain ⟨lv, elv⟩ : ∃ lv : rx_L, lv = [(0, .ref 174), (1, .int a1)] := ⟨_, rfl⟩
  rw [← elv]
  have l0 : rx_ld lv 0 = some (.ref 174) := by rw [elv]; rfl
  have l1 : rx_ld lv 1 = some (.int a1) := by rw [elv]; rfl
  refine rs_aldn wi_131_0 l0 ?_
  refine rs_pure wi_131_1 rfl ?_
  refine rs_topi (v := 0) (by decide) ?_
  obtain ⟨c1, e2, h⟩ := wp_lt h
  refine dq_pi wi_131_2 wp_131_356 tf_174_0 rfl rfl e2 ?_
  refine rs_aldn wi_131_5 l0 ?_
  refine rs_ildn wi_131_6 l1 ?_
  refine rs_V wi_131_7 wc_131_724 rfl (dq_isa tf_174_0 wa_15_119) (Nat.le_trans (by decide) hF) (ml_le wm_119 (Nat.le_trans (by decide) hLo)) rfl (sp_119 hw (Nat.le_trans (by decide : 0 ≤ 6 - 1) (Nat.sub_le_sub_right hF 1)) (ml_sub wm_119 (Nat.le_trans (by decide : 0 ≤ 149 - 21) (Nat.sub_le_sub_right hLo 21))) (wp_bind h) (fun v3 h => rs_back1 ?_))
  refine rs_ifne (tg := 15) wi_131_10 ⟨by decide, by decide⟩ (fun q => ?_) (fun q => ?_)
  ·
    have h := wp_neg h q
    refine rs_aldn wi_131_15 l0 ?_
    refine rs_V wi_131_16 wc_131_637 rfl (dq_isa tf_174_0 wa_15_133) (Nat.le_trans (by decide) hF) (ml_le wm_133 (Nat.le_trans (by decide) hLo)) rfl (sp_133 hw (Nat.le_trans (by decide : 0 ≤ 6 - 1) (Nat.sub_le_sub_right hF 1)) (ml_sub wm_133 (Nat.le_trans (by decide : 0 ≤ 149 - 20) (Nat.sub_le_sub_right hLo 20))) (wp_bind h) (fun r4 h => rs_back0 ?_))
    refine rs_pure wi_131_19 rfl ?_
    refine rs_topi (v := 0) (by decide) ?_
    refine dl_istn wi_131_20 rfl (fun lv l2 t5 => ?_)
    have l0 := t5 _ _ (by decide) (Or.inl rfl) l0
    have l1 := t5 _ _ (by decide) (Or.inl rfl) l1
    refine rs_pure wi_131_21 rfl ?_
    refine rs_topi (v := 0) (by decide) ?_
    refine dl_istn wi_131_22 rfl (fun lv l3 t6 => ?_)
    have l0 := t6 _ _ (by decide) (Or.inl rfl) l0
    have l1 := t6 _ _ (by decide) (Or.inl rfl) l1
    have l2 := t6 _ _ (by decide) (Or.inl rfl) l2
    refine whl_ex (A := fun s7 : Int32 × Int32 × cS => ∀ lv, rx_ld lv 0 = some (.ref 174) → rx_ld lv 1 = some (.int a1) → rx_ld lv 2 = some (.int s7.1) → rx_ld lv 3 = some (.int s7.2.1) → rs (rt_P sc fm) 131 F Lo 23 lv [] (hq false s7.2.2 y w) Q) (B := (fun x21 : Int32 × cS => ∀ lv, rx_ld lv 0 = some (.ref 174) → rx_ld lv 1 = some (.int a1) → rx_ld lv 2 = some (.int x21.1) → rs (rt_P sc fm) 131 F Lo 87 lv [] (hq false x21.2 y w) Q)) ?_ ?_ _ _ (wp_bind h) _ l0 l1 l2 l3
    · intro s7 h lv l0 l1 l2 l3
      refine rs_ildn wi_131_23 l3 ?_
      refine rs_pure wi_131_24 rfl ?_
      refine rs_topi (v := 1200) (by decide) ?_
      refine rs_icge (tg := 87) wi_131_27 ⟨by decide, by decide⟩ (fun q => ?_) (fun q => ?_)
      ·
        have h := wp_pos h q
        exact h _ l0 l1 l2
      ·
        have h := wp_neg h q
        refine rs_aldn wi_131_30 l0 ?_
        refine rs_ildn wi_131_31 l3 ?_
        refine rs_V wi_131_32 wc_131_829 rfl (dq_isa tf_174_0 wa_15_112) (Nat.le_trans (by decide) hF) (ml_le wm_112 (Nat.le_trans (by decide) hLo)) rfl (sp_112 hw (Nat.le_trans (by decide : 1 ≤ 6 - 1) (Nat.sub_le_sub_right hF 1)) (ml_sub wm_112 (Nat.le_trans (by decide : 24 ≤ 149 - 21) (Nat.sub_le_sub_right hLo 21))) (wp_bind h) (fun v8 h => rs_back1 ?_))
        refine wp_jn (B := fun p9 : Int32 × cS => ∀ lv, rx_ld lv 0 = some (.ref 174) → rx_ld lv 1 = some (.int a1) → rx_ld lv 2 = some (.int p9.1) → rx_ld lv 3 = some (.int s7.2.1) → rs (rt_P sc fm) 131 F Lo 81 lv [] (hq false p9.2 y w) Q) h (fun p9 h lv l0 l1 l2 l3 => ?_) (fun j81 hj81 h => ?_)
        ·
          obtain ⟨v11, e12, h⟩ := wp_lt h
          refine dl_inc wi_131_81 l3 rfl e12 (fun lv l3 t10 => ?_)
          have l0 := t10 _ _ (by decide) (Or.inl rfl) l0
          have l1 := t10 _ _ (by decide) (Or.inl rfl) l1
          have l2 := t10 _ _ (by decide) (Or.inl rfl) l2
          refine rs_goto (tg := 23) wi_131_84 ⟨by decide, by decide⟩ ?_
          exact h _ l0 l1 l2 l3
        refine rs_ifne (tg := 41) wi_131_35 ⟨by decide, by decide⟩ (fun q => ?_) (fun q => ?_)
        ·
          have h := wp_neg h q
          refine rs_aldn wi_131_41 l0 ?_
          refine rs_ildn wi_131_42 l3 ?_
          refine rs_pure wi_131_43 rfl ?_
          refine rs_topi (v := 100) (by decide) ?_
          refine rs_ildn wi_131_45 l1 ?_
          refine rs_pure wi_131_46 rfl ?_
          refine rs_V wi_131_47 wc_131_712 rfl (dq_isa tf_174_0 wa_15_428) (Nat.le_trans (by decide) hF) (ml_le wm_428 (Nat.le_trans (by decide) hLo)) rfl (sp_428 hw (Nat.le_trans (by decide : 3 ≤ 6 - 1) (Nat.sub_le_sub_right hF 1)) (ml_sub wm_428 (Nat.le_trans (by decide : 77 ≤ 149 - 28) (Nat.sub_le_sub_right hLo 28))) (wp_bind h) (fun r13 h => rs_back0 ?_))
          refine rs_aldn wi_131_50 l0 ?_
          refine dq_gi wi_131_51 wf_131_678 tf_174_74 ?_
          refine rs_ifle (tg := 60) wi_131_54 ⟨by decide, by decide⟩ (fun q => ?_) (fun q => ?_)
          ·
            have h := wp_pos h q
            refine rs_aldn wi_131_60 l0 ?_
            refine dq_gr wi_131_61 wf_131_258 tf_174_84 ?_
            refine rs_pure wi_131_64 rfl ?_
            refine rs_topi (v := 1200) (by decide) ?_
            refine rs_ildn wi_131_67 l1 ?_
            refine rs_pure wi_131_68 rfl ?_
            refine rs_ildn wi_131_69 l3 ?_
            refine rs_pure wi_131_70 rfl ?_
            refine rs_aldn wi_131_71 l0 ?_
            refine dq_gr wi_131_72 wf_131_116 tf_174_23 ?_
            refine rs_ildn wi_131_75 l1 ?_
            obtain ⟨g14, h⟩ := wp_gd h
            refine dq_iald wi_131_76 t_188 g14 ?_
            obtain ⟨g15, h⟩ := wp_gd h
            obtain ⟨c16, e17, h⟩ := wp_lt h
            refine dq_iast wi_131_77 t_235 g15 e17 ?_
            obtain ⟨v19, e20, h⟩ := wp_lt h
            refine dl_inc wi_131_78 l2 rfl e20 (fun lv l2 t18 => ?_)
            have l0 := t18 _ _ (by decide) (Or.inl rfl) l0
            have l1 := t18 _ _ (by decide) (Or.inl rfl) l1
            have l3 := t18 _ _ (by decide) (Or.inl rfl) l3
            exact hj81 _ h _ l0 l1 l2 l3
          ·
            have h := wp_neg h q
            refine rs_goto (tg := 81) wi_131_57 ⟨by decide, by decide⟩ ?_
            exact hj81 _ h _ l0 l1 l2 l3
        ·
          have h := wp_pos h q
          refine rs_goto (tg := 81) wi_131_38 ⟨by decide, by decide⟩ ?_
          exact hj81 _ h _ l0 l1 l2 l3
    ·
      intro x21 h lv l0 l1 l2
      refine rs_pure wi_131_87 rfl ?_
      refine rs_topi (v := 1) (by decide) ?_
      refine dl_istn wi_131_88 rfl (fun lv l3 t22 => ?_)
      have l0 := t22 _ _ (by decide) (Or.inl rfl) l0
      have l1 := t22 _ _ (by decide) (Or.inl rfl) l1
      have l2 := t22 _ _ (by decide) (Or.inl rfl) l2
      refine whl_ex (A := fun s23 : Int32 × cS => ∀ lv, rx_ld lv 0 = some (.ref 174) → rx_ld lv 1 = some (.int a1) → rx_ld lv 2 = some (.int x21.1) → rx_ld lv 3 = some (.int s23.1) → rs (rt_P sc fm) 131 F Lo 89 lv [] (hq false s23.2 y w) Q) (B := (fun x70 : cS => ∀ lv, rx_ld lv 2 = some (.int x21.1) → rs (rt_P sc fm) 131 F Lo 316 lv [] (hq false x70 y w) Q)) ?_ ?_ _ _ (wp_bind h) _ l0 l1 l2 l3
      · intro s23 h lv l0 l1 l2 l3
        refine rs_ildn wi_131_89 l3 ?_
        refine rs_ifeq (tg := 316) wi_131_90 ⟨by decide, by decide⟩ (fun q => ?_) (fun q => ?_)
        ·
          have h := wp_pos h q
          exact h _ l2
        ·
          have h := wp_neg h q
          refine rs_pure wi_131_93 rfl ?_
          refine rs_topi (v := 0) (by decide) ?_
          refine dl_istn wi_131_94 rfl (fun lv l3 t24 => ?_)
          have l0 := t24 _ _ (by decide) (Or.inl rfl) l0
          have l1 := t24 _ _ (by decide) (Or.inl rfl) l1
          have l2 := t24 _ _ (by decide) (Or.inl rfl) l2
          refine rs_aldn wi_131_95 l0 ?_
          refine rs_ildn wi_131_96 l1 ?_
          refine rs_V wi_131_97 wc_131_856 rfl (dq_isa tf_174_0 wa_15_450) (Nat.le_trans (by decide) hF) (ml_le wm_450 (Nat.le_trans (by decide) hLo)) rfl (sp_450 hw (Nat.le_trans (by decide : 5 ≤ 6 - 1) (Nat.sub_le_sub_right hF 1)) (ml_sub wm_450 (Nat.le_trans (by decide : 127 ≤ 149 - 22) (Nat.sub_le_sub_right hLo 22))) (wp_bind h) (fun r25 h => rs_back0 ?_))
          refine rs_pure wi_131_100 rfl ?_
          refine rs_topi (v := 0) (by decide) ?_
          refine dl_ist wi_131_101 rfl (fun lv l4 t26 => ?_)
          have l0 := t26 _ _ (by decide) (Or.inl rfl) l0
          have l1 := t26 _ _ (by decide) (Or.inl rfl) l1
          have l2 := t26 _ _ (by decide) (Or.inl rfl) l2
          have l3 := t26 _ _ (by decide) (Or.inl rfl) l3
          refine whl_ex (A := fun s27 : Int32 × Int32 × cS => ∀ lv, rx_ld lv 0 = some (.ref 174) → rx_ld lv 1 = some (.int a1) → rx_ld lv 2 = some (.int x21.1) → rx_ld lv 3 = some (.int s27.1) → rx_ld lv 4 = some (.int s27.2.1) → rs (rt_P sc fm) 131 F Lo 103 lv [] (hq false s27.2.2 y w) Q) (B := (fun x69 : Int32 × cS => ∀ lv, rx_ld lv 0 = some (.ref 174) → rx_ld lv 1 = some (.int a1) → rx_ld lv 2 = some (.int x21.1) → rx_ld lv 3 = some (.int x69.1) → rs (rt_P sc fm) 131 F Lo 313 lv [] (hq false x69.2 y w) Q)) ?_ ?_ _ _ (wp_bind h) _ l0 l1 l2 l3 l4
          · intro s27 h lv l0 l1 l2 l3 l4
            refine rs_ild wi_131_103 l4 ?_
            refine rs_pure wi_131_105 rfl ?_
            refine rs_topi (v := 96) (by decide) ?_
            refine rs_icge (tg := 313) wi_131_107 ⟨by decide, by decide⟩ (fun q => ?_) (fun q => ?_)
            ·
              have h := wp_pos h q
              exact h _ l0 l1 l2 l3
            ·
              have h := wp_neg h q
              refine rs_aldn wi_131_110 l0 ?_
              refine rs_ild wi_131_111 l4 ?_
              refine rs_V wi_131_113 wc_131_614 rfl (dq_isa tf_174_0 wa_15_105) (Nat.le_trans (by decide) hF) (ml_le wm_105 (Nat.le_trans (by decide) hLo)) rfl (sp_105 hw (Nat.le_trans (by decide : 0 ≤ 6 - 1) (Nat.sub_le_sub_right hF 1)) (ml_sub wm_105 (Nat.le_trans (by decide : 0 ≤ 149 - 21) (Nat.sub_le_sub_right hLo 21))) (wp_bind h) (fun v28 h => rs_back1 ?_))
              refine wp_jn (B := fun p29 : Int32 × cS => ∀ lv, rx_ld lv 0 = some (.ref 174) → rx_ld lv 1 = some (.int a1) → rx_ld lv 2 = some (.int x21.1) → rx_ld lv 3 = some (.int p29.1) → rx_ld lv 4 = some (.int s27.2.1) → rs (rt_P sc fm) 131 F Lo 307 lv [] (hq false p29.2 y w) Q) h (fun p29 h lv l0 l1 l2 l3 l4 => ?_) (fun j307 hj307 h => ?_)
              ·
                obtain ⟨v31, e32, h⟩ := wp_lt h
                refine dl_inc wi_131_307 l4 rfl e32 (fun lv l4 t30 => ?_)
                have l0 := t30 _ _ (by decide) (Or.inl rfl) l0
                have l1 := t30 _ _ (by decide) (Or.inl rfl) l1
                have l2 := t30 _ _ (by decide) (Or.inl rfl) l2
                have l3 := t30 _ _ (by decide) (Or.inl rfl) l3
                refine rs_goto (tg := 103) wi_131_310 ⟨by decide, by decide⟩ ?_
                exact h _ l0 l1 l2 l3 l4
              refine rs_ifne (tg := 122) wi_131_116 ⟨by decide, by decide⟩ (fun q => ?_) (fun q => ?_)
              ·
                have h := wp_neg h q
                refine rs_aldn wi_131_122 l0 ?_
                refine rs_ild wi_131_123 l4 ?_
                refine rs_ildn wi_131_125 l1 ?_
                refine rs_V wi_131_126 wc_131_862 rfl (dq_isa tf_174_0 wa_15_456) (Nat.le_trans (by decide) hF) (ml_le wm_456 (Nat.le_trans (by decide) hLo)) rfl (sp_456 hw (Nat.le_trans (by decide : 3 ≤ 6 - 1) (Nat.sub_le_sub_right hF 1)) (ml_sub wm_456 (Nat.le_trans (by decide : 70 ≤ 149 - 25) (Nat.sub_le_sub_right hLo 25))) (wp_bind h) (fun r33 h => rs_back0 ?_))
                refine rs_pure wi_131_129 rfl ?_
                refine rs_topi (v := 40) (by decide) ?_
                refine rs_ild wi_131_131 l4 ?_
                refine rs_pure wi_131_133 rfl ?_
                obtain ⟨v35, e36, h⟩ := wp_lt h
                refine rs_topi e36 ?_
                refine dl_ist wi_131_134 rfl (fun lv l5 t34 => ?_)
                have l0 := t34 _ _ (by decide) (Or.inl rfl) l0
                have l1 := t34 _ _ (by decide) (Or.inl rfl) l1
                have l2 := t34 _ _ (by decide) (Or.inl rfl) l2
                have l3 := t34 _ _ (by decide) (Or.inl rfl) l3
                have l4 := t34 _ _ (by decide) (Or.inl rfl) l4
                refine whl_ex (A := fun s37 : Int32 × Int32 × cS => ∀ lv, rx_ld lv 0 = some (.ref 174) → rx_ld lv 1 = some (.int a1) → rx_ld lv 2 = some (.int x21.1) → rx_ld lv 3 = some (.int s37.1) → rx_ld lv 4 = some (.int s27.2.1) → rx_ld lv 5 = some (.int s37.2.1) → rs (rt_P sc fm) 131 F Lo 136 lv [] (hq false s37.2.2 y w) Q) (B := (fun x68 : Int32 × cS => ∀ lv, rx_ld lv 0 = some (.ref 174) → rx_ld lv 1 = some (.int a1) → rx_ld lv 2 = some (.int x21.1) → rx_ld lv 3 = some (.int x68.1) → rx_ld lv 4 = some (.int s27.2.1) → rs (rt_P sc fm) 131 F Lo 307 lv [] (hq false x68.2 y w) Q)) ?_ ?_ _ _ (wp_bind h) _ l0 l1 l2 l3 l4 l5
                · intro s37 h lv l0 l1 l2 l3 l4 l5
                  refine rs_ild wi_131_136 l5 ?_
                  refine rs_pure wi_131_138 rfl ?_
                  refine rs_topi (v := 40) (by decide) ?_
                  refine rs_ild wi_131_140 l4 ?_
                  refine rs_pure wi_131_142 rfl ?_
                  refine rs_aldn wi_131_143 l0 ?_
                  refine dq_gr wi_131_144 wf_131_182 tf_174_48 ?_
                  refine rs_ild wi_131_147 l4 ?_
                  obtain ⟨g38, h⟩ := wp_gd h
                  refine dq_iald wi_131_149 t_210 g38 ?_
                  refine rs_pure wi_131_150 rfl ?_
                  refine rs_icge (tg := 307) wi_131_151 ⟨by decide, by decide⟩ (fun q => ?_) (fun q => ?_)
                  ·
                    have h := wp_pos h q
                    exact h _ l0 l1 l2 l3 l4
                  ·
                    have h := wp_neg h q
                    refine rs_pure wi_131_154 rfl ?_
                    refine rs_topi (v := 0) (by decide) ?_
                    refine dl_ist wi_131_155 rfl (fun lv l6 t39 => ?_)
                    have l0 := t39 _ _ (by decide) (Or.inl rfl) l0
                    have l1 := t39 _ _ (by decide) (Or.inl rfl) l1
                    have l2 := t39 _ _ (by decide) (Or.inl rfl) l2
                    have l3 := t39 _ _ (by decide) (Or.inl rfl) l3
                    have l4 := t39 _ _ (by decide) (Or.inl rfl) l4
                    have l5 := t39 _ _ (by decide) (Or.inl rfl) l5
                    refine whl_ex (A := fun s40 : Int32 × Int32 × cS => ∀ lv, rx_ld lv 0 = some (.ref 174) → rx_ld lv 1 = some (.int a1) → rx_ld lv 2 = some (.int x21.1) → rx_ld lv 3 = some (.int s40.1) → rx_ld lv 4 = some (.int s27.2.1) → rx_ld lv 5 = some (.int s37.2.1) → rx_ld lv 6 = some (.int s40.2.1) → rs (rt_P sc fm) 131 F Lo 157 lv [] (hq false s40.2.2 y w) Q) (B := (fun x64 : Int32 × cS => ∀ lv, rx_ld lv 0 = some (.ref 174) → rx_ld lv 1 = some (.int a1) → rx_ld lv 2 = some (.int x21.1) → rx_ld lv 3 = some (.int x64.1) → rx_ld lv 4 = some (.int s27.2.1) → rx_ld lv 5 = some (.int s37.2.1) → rs (rt_P sc fm) 131 F Lo 301 lv [] (hq false x64.2 y w) Q)) ?_ ?_ _ _ (wp_bind h) _ l0 l1 l2 l3 l4 l5 l6
                    · intro s40 h lv l0 l1 l2 l3 l4 l5 l6
                      refine rs_ild wi_131_157 l6 ?_
                      refine rs_aldn wi_131_159 l0 ?_
                      refine rs_ild wi_131_160 l5 ?_
                      refine rs_V wi_131_162 wc_131_853 rfl (dq_isa tf_174_0 wa_15_457) (Nat.le_trans (by decide) hF) (ml_le wm_457 (Nat.le_trans (by decide) hLo)) rfl (sp_457 hw (Nat.le_trans (by decide : 0 ≤ 6 - 1) (Nat.sub_le_sub_right hF 1)) (ml_sub wm_457 (Nat.le_trans (by decide : 0 ≤ 149 - 21) (Nat.sub_le_sub_right hLo 21))) (wp_bind h) (fun v41 h => rs_back1 ?_))
                      refine rs_icge (tg := 301) wi_131_165 ⟨by decide, by decide⟩ (fun q => ?_) (fun q => ?_)
                      ·
                        have h := wp_pos h q
                        exact h _ l0 l1 l2 l3 l4 l5
                      ·
                        have h := wp_neg h q
                        refine rs_aldn wi_131_168 l0 ?_
                        refine dq_gr wi_131_169 wf_131_271 tf_174_88 ?_
                        refine rs_ild wi_131_172 l5 ?_
                        obtain ⟨g42, h⟩ := wp_gd h
                        refine dq_zald wi_131_174 t_239 g42 ?_
                        refine rs_ifeq (tg := 301) wi_131_175 ⟨by decide, by decide⟩ (fun q => ?_) (fun q => ?_)
                        ·
                          have h := wp_pos h q
                          exact h _ l0 l1 l2 l3 l4 l5
                        ·
                          have h := wp_neg h q
                          refine rs_aldn wi_131_178 l0 ?_
                          refine rs_ild wi_131_179 l4 ?_
                          refine rs_ild wi_131_181 l5 ?_
                          refine rs_ild wi_131_183 l6 ?_
                          refine rs_V wi_131_185 wc_131_868 rfl (dq_isa tf_174_0 wa_15_458) (Nat.le_trans (by decide) hF) (ml_le wm_458 (Nat.le_trans (by decide) hLo)) rfl (sp_458 hw (Nat.le_trans (by decide : 1 ≤ 6 - 1) (Nat.sub_le_sub_right hF 1)) (ml_sub wm_458 (Nat.le_trans (by decide : 21 ≤ 149 - 23) (Nat.sub_le_sub_right hLo 23))) (wp_bind h) (fun v43 h => rs_back1 ?_))
                          refine dl_ist wi_131_188 rfl (fun lv l7 t44 => ?_)
                          have l0 := t44 _ _ (by decide) (Or.inl rfl) l0
                          have l1 := t44 _ _ (by decide) (Or.inl rfl) l1
                          have l2 := t44 _ _ (by decide) (Or.inl rfl) l2
                          have l3 := t44 _ _ (by decide) (Or.inl rfl) l3
                          have l4 := t44 _ _ (by decide) (Or.inl rfl) l4
                          have l5 := t44 _ _ (by decide) (Or.inl rfl) l5
                          have l6 := t44 _ _ (by decide) (Or.inl rfl) l6
                          refine rs_aldn wi_131_190 l0 ?_
                          refine dq_gr wi_131_191 wf_131_268 tf_174_87 ?_
                          refine rs_pure wi_131_194 rfl ?_
                          refine rs_topi (v := 16) (by decide) ?_
                          refine rs_ild wi_131_196 l5 ?_
                          refine rs_pure wi_131_198 rfl ?_
                          refine rs_pure wi_131_199 rfl ?_
                          refine rs_topi (v := 8) (by decide) ?_
                          refine rs_pure wi_131_201 rfl ?_
                          refine rs_aldn wi_131_202 l0 ?_
                          refine dq_gr wi_131_203 wf_131_243 tf_174_70 ?_
                          refine rs_ild wi_131_206 l5 ?_
                          obtain ⟨g45, h⟩ := wp_gd h
                          refine dq_iald wi_131_208 t_230 g45 ?_
                          refine rs_pure wi_131_209 rfl ?_
                          refine rs_pure wi_131_210 rfl ?_
                          refine rs_topi (v := 1) (by decide) ?_
                          refine rs_pure wi_131_211 rfl ?_
                          refine rs_aldn wi_131_212 l0 ?_
                          refine rs_ild wi_131_213 l5 ?_
                          refine rs_ild wi_131_215 l6 ?_
                          refine rs_V wi_131_217 wc_131_865 rfl (dq_isa tf_174_0 wa_15_459) (Nat.le_trans (by decide) hF) (ml_le wm_459 (Nat.le_trans (by decide) hLo)) rfl (sp_459 hw (Nat.le_trans (by decide : 1 ≤ 6 - 1) (Nat.sub_le_sub_right hF 1)) (ml_sub wm_459 (Nat.le_trans (by decide : 21 ≤ 149 - 22) (Nat.sub_le_sub_right hLo 22))) (wp_bind h) (fun v46 h => rs_back1 ?_))
                          refine rs_pure wi_131_220 rfl ?_
                          obtain ⟨g47, h⟩ := wp_gd h
                          refine dq_iald wi_131_221 t_238 g47 ?_
                          obtain ⟨v49, e50, h⟩ := wp_lt h
                          refine rs_topi e50 ?_
                          refine dl_ist wi_131_222 rfl (fun lv l8 t48 => ?_)
                          have l0 := t48 _ _ (by decide) (Or.inl rfl) l0
                          have l1 := t48 _ _ (by decide) (Or.inl rfl) l1
                          have l2 := t48 _ _ (by decide) (Or.inl rfl) l2
                          have l3 := t48 _ _ (by decide) (Or.inl rfl) l3
                          have l4 := t48 _ _ (by decide) (Or.inl rfl) l4
                          have l5 := t48 _ _ (by decide) (Or.inl rfl) l5
                          have l6 := t48 _ _ (by decide) (Or.inl rfl) l6
                          have l7 := t48 _ _ (by decide) (Or.inl rfl) l7
                          refine rs_aldn wi_131_224 l0 ?_
                          refine dq_gr wi_131_225 wf_131_264 tf_174_86 ?_
                          refine rs_ild wi_131_228 l7 ?_
                          obtain ⟨g51, h⟩ := wp_gd h
                          refine dq_zald wi_131_230 t_237 g51 ?_
                          refine wp_jn (B := fun p52 : Int32 × cS => ∀ lv, rx_ld lv 0 = some (.ref 174) → rx_ld lv 1 = some (.int a1) → rx_ld lv 2 = some (.int x21.1) → rx_ld lv 3 = some (.int p52.1) → rx_ld lv 4 = some (.int s27.2.1) → rx_ld lv 5 = some (.int s37.2.1) → rx_ld lv 6 = some (.int s40.2.1) → rs (rt_P sc fm) 131 F Lo 295 lv [] (hq false p52.2 y w) Q) h (fun p52 h lv l0 l1 l2 l3 l4 l5 l6 => ?_) (fun j295 hj295 h => ?_)
                          ·
                            obtain ⟨v54, e55, h⟩ := wp_lt h
                            refine dl_inc wi_131_295 l6 rfl e55 (fun lv l6 t53 => ?_)
                            have l0 := t53 _ _ (by decide) (Or.inl rfl) l0
                            have l1 := t53 _ _ (by decide) (Or.inl rfl) l1
                            have l2 := t53 _ _ (by decide) (Or.inl rfl) l2
                            have l3 := t53 _ _ (by decide) (Or.inl rfl) l3
                            have l4 := t53 _ _ (by decide) (Or.inl rfl) l4
                            have l5 := t53 _ _ (by decide) (Or.inl rfl) l5
                            refine rs_goto (tg := 157) wi_131_298 ⟨by decide, by decide⟩ ?_
                            exact h _ l0 l1 l2 l3 l4 l5 l6
                          refine rs_ifne (tg := 295) wi_131_231 ⟨by decide, by decide⟩ (fun q => ?_) (fun q => ?_)
                          ·
                            have h := wp_neg h q
                            exact hj295 _ h _ l0 l1 l2 l3 l4 l5 l6
                          ·
                            have h := wp_pos h q
                            refine rs_aldn wi_131_234 l0 ?_
                            refine rs_ildn wi_131_235 l1 ?_
                            refine rs_ild wi_131_236 l8 ?_
                            refine rs_aldn wi_131_238 l0 ?_
                            refine dq_gr wi_131_239 wf_131_258 tf_174_84 ?_
                            refine rs_pure wi_131_242 rfl ?_
                            refine rs_topi (v := 1200) (by decide) ?_
                            refine rs_ildn wi_131_245 l1 ?_
                            refine rs_pure wi_131_246 rfl ?_
                            refine rs_ild wi_131_247 l7 ?_
                            refine rs_pure wi_131_249 rfl ?_
                            obtain ⟨g56, h⟩ := wp_gd h
                            refine dq_iald wi_131_250 t_235 g56 ?_
                            refine rs_V wi_131_251 wc_131_535 rfl (dq_isa tf_174_0 wa_15_387) (Nat.le_trans (by decide) hF) (ml_le wm_387 (Nat.le_trans (by decide) hLo)) rfl (sp_387 hw (Nat.le_trans (by decide : 1 ≤ 6 - 1) (Nat.sub_le_sub_right hF 1)) (ml_sub wm_387 (Nat.le_trans (by decide : 23 ≤ 149 - 23) (Nat.sub_le_sub_right hLo 23))) (wp_bind h) (fun v57 h => rs_back1 ?_))
                            refine rs_ifeq (tg := 260) wi_131_254 ⟨by decide, by decide⟩ (fun q => ?_) (fun q => ?_)
                            ·
                              have h := wp_pos h q
                              refine rs_aldn wi_131_260 l0 ?_
                              refine dq_gr wi_131_261 wf_131_258 tf_174_84 ?_
                              refine rs_pure wi_131_264 rfl ?_
                              refine rs_topi (v := 1200) (by decide) ?_
                              refine rs_ildn wi_131_267 l1 ?_
                              refine rs_pure wi_131_268 rfl ?_
                              refine rs_ild wi_131_269 l7 ?_
                              refine rs_pure wi_131_271 rfl ?_
                              refine rs_aldn wi_131_272 l0 ?_
                              refine rs_ildn wi_131_273 l1 ?_
                              refine rs_ild wi_131_274 l8 ?_
                              refine rs_aldn wi_131_276 l0 ?_
                              refine dq_gr wi_131_277 wf_131_258 tf_174_84 ?_
                              refine rs_pure wi_131_280 rfl ?_
                              refine rs_topi (v := 1200) (by decide) ?_
                              refine rs_ildn wi_131_283 l1 ?_
                              refine rs_pure wi_131_284 rfl ?_
                              refine rs_ild wi_131_285 l7 ?_
                              refine rs_pure wi_131_287 rfl ?_
                              obtain ⟨g58, h⟩ := wp_gd h
                              refine dq_iald wi_131_288 t_235 g58 ?_
                              refine rs_V wi_131_289 wc_131_727 rfl (dq_isa tf_174_0 wa_15_390) (Nat.le_trans (by decide) hF) (ml_le wm_390 (Nat.le_trans (by decide) hLo)) rfl (sp_390 hw (Nat.le_trans (by decide : 1 ≤ 6 - 1) (Nat.sub_le_sub_right hF 1)) (ml_sub wm_390 (Nat.le_trans (by decide : 23 ≤ 149 - 23) (Nat.sub_le_sub_right hLo 23))) (wp_bind h) (fun v59 h => rs_back1 ?_))
                              obtain ⟨g60, h⟩ := wp_gd h
                              obtain ⟨c61, e62, h⟩ := wp_lt h
                              refine dq_iast wi_131_292 t_235 g60 e62 ?_
                              refine rs_pure wi_131_293 rfl ?_
                              refine rs_topi (v := 1) (by decide) ?_
                              refine dl_istn wi_131_294 rfl (fun lv l3 t63 => ?_)
                              have l0 := t63 _ _ (by decide) (Or.inl rfl) l0
                              have l1 := t63 _ _ (by decide) (Or.inl rfl) l1
                              have l2 := t63 _ _ (by decide) (Or.inl rfl) l2
                              have l4 := t63 _ _ (by decide) (Or.inl rfl) l4
                              have l5 := t63 _ _ (by decide) (Or.inl rfl) l5
                              have l6 := t63 _ _ (by decide) (Or.inl rfl) l6
                              exact hj295 _ h _ l0 l1 l2 l3 l4 l5 l6
                            ·
                              have h := wp_neg h q
                              refine rs_goto (tg := 295) wi_131_257 ⟨by decide, by decide⟩ ?_
                              exact hj295 _ h _ l0 l1 l2 l3 l4 l5 l6
                    ·
                      intro x64 h lv l0 l1 l2 l3 l4 l5
                      obtain ⟨v66, e67, h⟩ := wp_lt h
                      refine dl_inc wi_131_301 l5 rfl e67 (fun lv l5 t65 => ?_)
                      have l0 := t65 _ _ (by decide) (Or.inl rfl) l0
                      have l1 := t65 _ _ (by decide) (Or.inl rfl) l1
                      have l2 := t65 _ _ (by decide) (Or.inl rfl) l2
                      have l3 := t65 _ _ (by decide) (Or.inl rfl) l3
                      have l4 := t65 _ _ (by decide) (Or.inl rfl) l4
                      refine rs_goto (tg := 136) wi_131_304 ⟨by decide, by decide⟩ ?_
                      exact h _ l0 l1 l2 l3 l4 l5
                ·
                  intro x68 h lv l0 l1 l2 l3 l4
                  exact hj307 _ h _ l0 l1 l2 l3 l4
              ·
                have h := wp_pos h q
                refine rs_goto (tg := 307) wi_131_119 ⟨by decide, by decide⟩ ?_
                exact hj307 _ h _ l0 l1 l2 l3 l4
          ·
            intro x69 h lv l0 l1 l2 l3
            refine rs_goto (tg := 89) wi_131_313 ⟨by decide, by decide⟩ ?_
            exact h _ l0 l1 l2 l3
      ·
        intro x70 h lv l2
        refine rs_ildn wi_131_316 l2 ?_
        exact rs_iret wi_131_317 wr_131 rfl (hQ (x21.1, x70) h)
  ·
    have h := wp_pos h q
    refine rs_pure wi_131_13 rfl ?_
    refine rs_topi (v := (-1)) (by decide) ?_
    exact rs_iret wi_131_14 wr_131 rfl (hQ ((-1), c1) h)
set_option maxRecDepth 100000 in
theorem wc_132_637 : rx_ct (rt_P sc fm) 132 637 = some (0, 133, 0) := (by decide +kernel : rt_ct 132 637 = some (0, 133, 0))
set_option maxRecDepth 100000 in
theorem wc_132_724 : rx_ct (rt_P sc fm) 132 724 = some (0, 119, 1) := (by decide +kernel : rt_ct 132 724 = some (0, 119, 1))
set_option maxRecDepth 100000 in
theorem wf_132_113 : rx_ft (rt_P sc fm) 132 113 = some (15, 22) := (by decide +kernel : rt_ft 132 113 = some (15, 22))
set_option maxRecDepth 100000 in
theorem wf_132_258 : rx_ft (rt_P sc fm) 132 258 = some (15, 84) := (by decide +kernel : rt_ft 132 258 = some (15, 84))
theorem wi_132_0 : ri (rt_P sc fm) 132 0 (.aload_n 0) (1) := ri_of (by decide +kernel) rfl
theorem wi_132_1 : ri (rt_P sc fm) 132 1 (.iconst 0) (2) := ri_of (by decide +kernel) rfl
theorem wi_132_10 : ri (rt_P sc fm) 132 10 (.ifCond .ne 5) (13) := ri_of (by decide +kernel) rfl
theorem wi_132_13 : ri (rt_P sc fm) 132 13 (.iconst 0) (14) := ri_of (by decide +kernel) rfl
theorem wi_132_14 : ri (rt_P sc fm) 132 14 (.ireturn) (15) := ri_of (by decide +kernel) rfl
theorem wi_132_15 : ri (rt_P sc fm) 132 15 (.aload_n 0) (16) := ri_of (by decide +kernel) rfl
theorem wi_132_16 : ri (rt_P sc fm) 132 16 (.invokevirtual 637) (19) := ri_of (by decide +kernel) rfl
theorem wi_132_19 : ri (rt_P sc fm) 132 19 (.iconst 0) (20) := ri_of (by decide +kernel) rfl
theorem wi_132_2 : ri (rt_P sc fm) 132 2 (.putfield 356) (5) := ri_of (by decide +kernel) rfl
theorem wi_132_20 : ri (rt_P sc fm) 132 20 (.istore_n 2) (21) := ri_of (by decide +kernel) rfl
theorem wi_132_21 : ri (rt_P sc fm) 132 21 (.iload_n 2) (22) := ri_of (by decide +kernel) rfl
theorem wi_132_22 : ri (rt_P sc fm) 132 22 (.sipush 1200) (25) := ri_of (by decide +kernel) rfl
theorem wi_132_25 : ri (rt_P sc fm) 132 25 (.if_icmp .ge 27) (28) := ri_of (by decide +kernel) rfl
theorem wi_132_28 : ri (rt_P sc fm) 132 28 (.aload_n 0) (29) := ri_of (by decide +kernel) rfl
theorem wi_132_29 : ri (rt_P sc fm) 132 29 (.getfield 258) (32) := ri_of (by decide +kernel) rfl
theorem wi_132_32 : ri (rt_P sc fm) 132 32 (.sipush 1200) (35) := ri_of (by decide +kernel) rfl
theorem wi_132_35 : ri (rt_P sc fm) 132 35 (.iload_n 1) (36) := ri_of (by decide +kernel) rfl
theorem wi_132_36 : ri (rt_P sc fm) 132 36 (.imul) (37) := ri_of (by decide +kernel) rfl
theorem wi_132_37 : ri (rt_P sc fm) 132 37 (.iload_n 2) (38) := ri_of (by decide +kernel) rfl
theorem wi_132_38 : ri (rt_P sc fm) 132 38 (.iadd) (39) := ri_of (by decide +kernel) rfl
theorem wi_132_39 : ri (rt_P sc fm) 132 39 (.aload_n 0) (40) := ri_of (by decide +kernel) rfl
theorem wi_132_40 : ri (rt_P sc fm) 132 40 (.getfield 113) (43) := ri_of (by decide +kernel) rfl
theorem wi_132_43 : ri (rt_P sc fm) 132 43 (.iload_n 1) (44) := ri_of (by decide +kernel) rfl
theorem wi_132_44 : ri (rt_P sc fm) 132 44 (.iaload) (45) := ri_of (by decide +kernel) rfl
theorem wi_132_45 : ri (rt_P sc fm) 132 45 (.iastore) (46) := ri_of (by decide +kernel) rfl
theorem wi_132_46 : ri (rt_P sc fm) 132 46 (.iinc 2 1) (49) := ri_of (by decide +kernel) rfl
theorem wi_132_49 : ri (rt_P sc fm) 132 49 (.goto (-28)) (52) := ri_of (by decide +kernel) rfl
theorem wi_132_5 : ri (rt_P sc fm) 132 5 (.aload_n 0) (6) := ri_of (by decide +kernel) rfl
theorem wi_132_52 : ri (rt_P sc fm) 132 52 (.iconst 1) (53) := ri_of (by decide +kernel) rfl
theorem wi_132_53 : ri (rt_P sc fm) 132 53 (.ireturn) (54) := ri_of (by decide +kernel) rfl
theorem wi_132_6 : ri (rt_P sc fm) 132 6 (.iload_n 1) (7) := ri_of (by decide +kernel) rfl
theorem wi_132_7 : ri (rt_P sc fm) 132 7 (.invokevirtual 724) (10) := ri_of (by decide +kernel) rfl
set_option maxRecDepth 100000 in
theorem wp_132_356 : rx_pt (rt_P sc fm) 132 356 = some (15, 0, .int) := (by decide +kernel : rt_pt 132 356 = some (15, 0, .int))
set_option maxRecDepth 100000 in
theorem wr_132 : rx_rt (rt_P sc fm) 132 = (some FieldType.boolean) := (by decide +kernel : rt_rt 132 = (some FieldType.boolean))
/-- MarkHouseModel.plain(I)Z -/
def d_132 (n : Nat) (a1 : Int32) (c : cS) : Option (Int32 × cS) :=
  lt (pI c 174 0 0) (fun c1 =>
  Option.bind (d_119 n a1 c1) (fun v3 =>
  if v3 = 0 then
    some (0, c1)
  else
    Option.bind (d_133 n c1) (fun r4 =>
    Option.bind (whl (R := (cS)) (fun s6 : Int32 × cS =>
      if 1200 ≤ s6.1 then
        some (.inr s6.2)
      else
        if ib a1 4 then
        if ib ((1200 * a1) + s6.1) 4800 then
        lt (pI s6.2 235 (ix ((1200 * a1) + s6.1)) (s6.2.1 187 (ix a1))) (fun c9 =>
        lt (s6.1 + 1 : Int32) (fun v12 =>
        some (.inl (v12, c9))))
        else none
        else none) n (0, r4))
    (fun x14 : cS =>
      some (1, x14)))))
set_option maxRecDepth 100000 in
set_option maxHeartbeats 4000000 in
theorem sp_132 {F Lo n : Nat} {a1 : Int32} {c y : cS} {w : cW} {K : Int32 × cS → Prop} {Q : ((Option Value) ⊕ String) → List va_E → Prop} (hw : rOK fm w) (hF : 1 ≤ F) (hLo : 21 ≤ Lo)  (h : wp (d_132 n a1 c) K) (hQ : ∀ r, K r → Q (.inl (some (.int r.1))) (hq false r.2 y w)) : rs (rt_P sc fm) 132 F Lo 0 [(0, .ref 174), (1, .int a1)] [] (hq false c y w) Q := by
  unfold d_132 at h
  obtain ⟨lv, elv⟩ : ∃ lv : rx_L, lv = [(0, .ref 174), (1, .int a1)] := ⟨_, rfl⟩
  rw [← elv]
  have l0 : rx_ld lv 0 = some (.ref 174) := by rw [elv]; rfl
  have l1 : rx_ld lv 1 = some (.int a1) := by rw [elv]; rfl
  refine rs_aldn wi_132_0 l0 ?_
  refine rs_pure wi_132_1 rfl ?_
  refine rs_topi (v := 0) (by decide) ?_
  obtain ⟨c1, e2, h⟩ := wp_lt h
  refine dq_pi wi_132_2 wp_132_356 tf_174_0 rfl rfl e2 ?_
  refine rs_aldn wi_132_5 l0 ?_
  refine rs_ildn wi_132_6 l1 ?_
  refine rs_V wi_132_7 wc_132_724 rfl (dq_isa tf_174_0 wa_15_119) (Nat.le_trans (by decide) hF) (ml_le wm_119 (Nat.le_trans (by decide) hLo)) rfl (sp_119 hw (Nat.le_trans (by decide : 0 ≤ 1 - 1) (Nat.sub_le_sub_right hF 1)) (ml_sub wm_119 (Nat.le_trans (by decide : 0 ≤ 21 - 21) (Nat.sub_le_sub_right hLo 21))) (wp_bind h) (fun v3 h => rs_back1 ?_))
  refine rs_ifne (tg := 15) wi_132_10 ⟨by decide, by decide⟩ (fun q => ?_) (fun q => ?_)
  ·
    have h := wp_neg h q
    refine rs_aldn wi_132_15 l0 ?_
    refine rs_V wi_132_16 wc_132_637 rfl (dq_isa tf_174_0 wa_15_133) (Nat.le_trans (by decide) hF) (ml_le wm_133 (Nat.le_trans (by decide) hLo)) rfl (sp_133 hw (Nat.le_trans (by decide : 0 ≤ 1 - 1) (Nat.sub_le_sub_right hF 1)) (ml_sub wm_133 (Nat.le_trans (by decide : 0 ≤ 21 - 20) (Nat.sub_le_sub_right hLo 20))) (wp_bind h) (fun r4 h => rs_back0 ?_))
    refine rs_pure wi_132_19 rfl ?_
    refine rs_topi (v := 0) (by decide) ?_
    refine dl_istn wi_132_20 rfl (fun lv l2 t5 => ?_)
    have l0 := t5 _ _ (by decide) (Or.inl rfl) l0
    have l1 := t5 _ _ (by decide) (Or.inl rfl) l1
    refine whl_ex (A := fun s6 : Int32 × cS => ∀ lv, rx_ld lv 0 = some (.ref 174) → rx_ld lv 1 = some (.int a1) → rx_ld lv 2 = some (.int s6.1) → rs (rt_P sc fm) 132 F Lo 21 lv [] (hq false s6.2 y w) Q) (B := (fun x14 : cS => ∀ lv, rs (rt_P sc fm) 132 F Lo 52 lv [] (hq false x14 y w) Q)) ?_ ?_ _ _ (wp_bind h) _ l0 l1 l2
    · intro s6 h lv l0 l1 l2
      refine rs_ildn wi_132_21 l2 ?_
      refine rs_pure wi_132_22 rfl ?_
      refine rs_topi (v := 1200) (by decide) ?_
      refine rs_icge (tg := 52) wi_132_25 ⟨by decide, by decide⟩ (fun q => ?_) (fun q => ?_)
      ·
        have h := wp_pos h q
        exact h _
      ·
        have h := wp_neg h q
        refine rs_aldn wi_132_28 l0 ?_
        refine dq_gr wi_132_29 wf_132_258 tf_174_84 ?_
        refine rs_pure wi_132_32 rfl ?_
        refine rs_topi (v := 1200) (by decide) ?_
        refine rs_ildn wi_132_35 l1 ?_
        refine rs_pure wi_132_36 rfl ?_
        refine rs_ildn wi_132_37 l2 ?_
        refine rs_pure wi_132_38 rfl ?_
        refine rs_aldn wi_132_39 l0 ?_
        refine dq_gr wi_132_40 wf_132_113 tf_174_22 ?_
        refine rs_ildn wi_132_43 l1 ?_
        obtain ⟨g7, h⟩ := wp_gd h
        refine dq_iald wi_132_44 t_187 g7 ?_
        obtain ⟨g8, h⟩ := wp_gd h
        obtain ⟨c9, e10, h⟩ := wp_lt h
        refine dq_iast wi_132_45 t_235 g8 e10 ?_
        obtain ⟨v12, e13, h⟩ := wp_lt h
        refine dl_inc wi_132_46 l2 rfl e13 (fun lv l2 t11 => ?_)
        have l0 := t11 _ _ (by decide) (Or.inl rfl) l0
        have l1 := t11 _ _ (by decide) (Or.inl rfl) l1
        refine rs_goto (tg := 21) wi_132_49 ⟨by decide, by decide⟩ ?_
        exact h _ l0 l1 l2
    ·
      intro x14 h lv
      refine rs_pure wi_132_52 rfl ?_
      refine rs_topi (v := 1) (by decide) ?_
      exact rs_iret wi_132_53 wr_132 (nb_n (by decide)) (hQ (1, x14) h)
  ·
    have h := wp_pos h q
    refine rs_pure wi_132_13 rfl ?_
    refine rs_topi (v := 0) (by decide) ?_
    exact rs_iret wi_132_14 wr_132 (nb_n (by decide)) (hQ (0, c1) h)
theorem wi_463_0 : ri (rt_P sc fm) 463 0 (.iload_n 0) (1) := ri_of (by decide +kernel) rfl
theorem wi_463_1 : ri (rt_P sc fm) 463 1 (.iconst 4) (2) := ri_of (by decide +kernel) rfl
theorem wi_463_2 : ri (rt_P sc fm) 463 2 (.imul) (3) := ri_of (by decide +kernel) rfl
theorem wi_463_3 : ri (rt_P sc fm) 463 3 (.iload_n 1) (4) := ri_of (by decide +kernel) rfl
theorem wi_463_4 : ri (rt_P sc fm) 463 4 (.iadd) (5) := ri_of (by decide +kernel) rfl
theorem wi_463_5 : ri (rt_P sc fm) 463 5 (.iconst 4) (6) := ri_of (by decide +kernel) rfl
theorem wi_463_6 : ri (rt_P sc fm) 463 6 (.imul) (7) := ri_of (by decide +kernel) rfl
theorem wi_463_7 : ri (rt_P sc fm) 463 7 (.iload_n 2) (8) := ri_of (by decide +kernel) rfl
theorem wi_463_8 : ri (rt_P sc fm) 463 8 (.iadd) (9) := ri_of (by decide +kernel) rfl
theorem wi_463_9 : ri (rt_P sc fm) 463 9 (.ireturn) (10) := ri_of (by decide +kernel) rfl
set_option maxRecDepth 100000 in
theorem wr_463 : rx_rt (rt_P sc fm) 463 = (some FieldType.int) := (by decide +kernel : rt_rt 463 = (some FieldType.int))
/-- MarkHouseModel.checkAt(III)I -/
def d_463 (n : Nat) (a0 : Int32) (a1 : Int32) (a2 : Int32) : Option (Int32) :=
  some ((((a0 * 4) + a1) * 4) + a2)
set_option maxRecDepth 100000 in
set_option maxHeartbeats 4000000 in
theorem sp_463 {F Lo n : Nat} {a0 : Int32} {a1 : Int32} {a2 : Int32} {L : List va_E} {K : Int32 → Prop} {Q : ((Option Value) ⊕ String) → List va_E → Prop} (hF : 0 ≤ F) (hLo : 0 ≤ Lo)  (h : wp (d_463 n a0 a1 a2) K) (hQ : ∀ r, K r → Q (.inl (some (.int r))) L) : rs (rt_P sc fm) 463 F Lo 0 [(0, .int a0), (1, .int a1), (2, .int a2)] [] L Q := by
  unfold d_463 at h
  obtain ⟨lv, elv⟩ : ∃ lv : rx_L, lv = [(0, .int a0), (1, .int a1), (2, .int a2)] := ⟨_, rfl⟩
  rw [← elv]
  have l0 : rx_ld lv 0 = some (.int a0) := by rw [elv]; rfl
  have l1 : rx_ld lv 1 = some (.int a1) := by rw [elv]; rfl
  have l2 : rx_ld lv 2 = some (.int a2) := by rw [elv]; rfl
  refine rs_ildn wi_463_0 l0 ?_
  refine rs_pure wi_463_1 rfl ?_
  refine rs_topi (v := 4) (by decide) ?_
  refine rs_pure wi_463_2 rfl ?_
  refine rs_ildn wi_463_3 l1 ?_
  refine rs_pure wi_463_4 rfl ?_
  refine rs_pure wi_463_5 rfl ?_
  refine rs_topi (v := 4) (by decide) ?_
  refine rs_pure wi_463_6 rfl ?_
  refine rs_ildn wi_463_7 l2 ?_
  refine rs_pure wi_463_8 rfl ?_
  exact rs_iret wi_463_9 wr_463 rfl (hQ ((((a0 * 4) + a1) * 4) + a2) h)
set_option maxRecDepth 100000 in
theorem wc_134_871 : rx_ct (rt_P sc fm) 134 871 = some (0, 460, 1) := (by decide +kernel : rt_ct 134 871 = some (0, 460, 1))
set_option maxRecDepth 100000 in
theorem wc_134_903 : rx_ct (rt_P sc fm) 134 903 = some (1, 463, 3) := (by decide +kernel : rt_ct 134 903 = some (1, 463, 3))
set_option maxRecDepth 100000 in
theorem wf_134_277 : rx_ft (rt_P sc fm) 134 277 = some (15, 92) := (by decide +kernel : rt_ft 134 277 = some (15, 92))
set_option maxRecDepth 100000 in
theorem wf_134_280 : rx_ft (rt_P sc fm) 134 280 = some (15, 93) := (by decide +kernel : rt_ft 134 280 = some (15, 93))
set_option maxRecDepth 100000 in
theorem wf_134_283 : rx_ft (rt_P sc fm) 134 283 = some (15, 94) := (by decide +kernel : rt_ft 134 283 = some (15, 94))
set_option maxRecDepth 100000 in
theorem wf_134_289 : rx_ft (rt_P sc fm) 134 289 = some (15, 96) := (by decide +kernel : rt_ft 134 289 = some (15, 96))
set_option maxRecDepth 100000 in
theorem wf_134_292 : rx_ft (rt_P sc fm) 134 292 = some (15, 97) := (by decide +kernel : rt_ft 134 292 = some (15, 97))
set_option maxRecDepth 100000 in
theorem wf_134_308 : rx_ft (rt_P sc fm) 134 308 = some (15, 107) := (by decide +kernel : rt_ft 134 308 = some (15, 107))
set_option maxRecDepth 100000 in
theorem wf_134_447 : rx_ft (rt_P sc fm) 134 447 = some (15, 15) := (by decide +kernel : rt_ft 134 447 = some (15, 15))
set_option maxRecDepth 100000 in
theorem wf_134_634 : rx_ft (rt_P sc fm) 134 634 = some (15, 14) := (by decide +kernel : rt_ft 134 634 = some (15, 14))
set_option maxRecDepth 100000 in
theorem wf_134_859 : rx_ft (rt_P sc fm) 134 859 = some (15, 91) := (by decide +kernel : rt_ft 134 859 = some (15, 91))
theorem wi_134_0 : ri (rt_P sc fm) 134 0 (.aload_n 0) (1) := ri_of (by decide +kernel) rfl
theorem wi_134_1 : ri (rt_P sc fm) 134 1 (.iconst 0) (2) := ri_of (by decide +kernel) rfl
theorem wi_134_100 : ri (rt_P sc fm) 134 100 (.iinc 3 1) (103) := ri_of (by decide +kernel) rfl
theorem wi_134_103 : ri (rt_P sc fm) 134 103 (.goto (-48)) (106) := ri_of (by decide +kernel) rfl
theorem wi_134_106 : ri (rt_P sc fm) 134 106 (.iload_n 1) (107) := ri_of (by decide +kernel) rfl
theorem wi_134_107 : ri (rt_P sc fm) 134 107 (.aload_n 0) (108) := ri_of (by decide +kernel) rfl
theorem wi_134_108 : ri (rt_P sc fm) 134 108 (.getfield 859) (111) := ri_of (by decide +kernel) rfl
theorem wi_134_111 : ri (rt_P sc fm) 134 111 (.iadd) (112) := ri_of (by decide +kernel) rfl
theorem wi_134_112 : ri (rt_P sc fm) 134 112 (.istore_n 1) (113) := ri_of (by decide +kernel) rfl
theorem wi_134_113 : ri (rt_P sc fm) 134 113 (.iinc 2 1) (116) := ri_of (by decide +kernel) rfl
theorem wi_134_116 : ri (rt_P sc fm) 134 116 (.goto (-76)) (119) := ri_of (by decide +kernel) rfl
theorem wi_134_119 : ri (rt_P sc fm) 134 119 (.aload_n 0) (120) := ri_of (by decide +kernel) rfl
theorem wi_134_12 : ri (rt_P sc fm) 134 12 (.iconst (-1)) (13) := ri_of (by decide +kernel) rfl
theorem wi_134_120 : ri (rt_P sc fm) 134 120 (.iconst 1) (121) := ri_of (by decide +kernel) rfl
theorem wi_134_121 : ri (rt_P sc fm) 134 121 (.putfield 894) (124) := ri_of (by decide +kernel) rfl
theorem wi_134_124 : ri (rt_P sc fm) 134 124 (.aload_n 0) (125) := ri_of (by decide +kernel) rfl
theorem wi_134_125 : ri (rt_P sc fm) 134 125 (.getfield 292) (128) := ri_of (by decide +kernel) rfl
theorem wi_134_128 : ri (rt_P sc fm) 134 128 (.ifCond .lt 11) (131) := ri_of (by decide +kernel) rfl
theorem wi_134_13 : ri (rt_P sc fm) 134 13 (.ireturn) (14) := ri_of (by decide +kernel) rfl
theorem wi_134_131 : ri (rt_P sc fm) 134 131 (.aload_n 0) (132) := ri_of (by decide +kernel) rfl
theorem wi_134_132 : ri (rt_P sc fm) 134 132 (.aload_n 0) (133) := ri_of (by decide +kernel) rfl
theorem wi_134_133 : ri (rt_P sc fm) 134 133 (.getfield 292) (136) := ri_of (by decide +kernel) rfl
theorem wi_134_136 : ri (rt_P sc fm) 134 136 (.invokevirtual 871) (139) := ri_of (by decide +kernel) rfl
theorem wi_134_139 : ri (rt_P sc fm) 134 139 (.iload_n 1) (140) := ri_of (by decide +kernel) rfl
theorem wi_134_14 : ri (rt_P sc fm) 134 14 (.iconst 0) (15) := ri_of (by decide +kernel) rfl
theorem wi_134_140 : ri (rt_P sc fm) 134 140 (.ireturn) (141) := ri_of (by decide +kernel) rfl
theorem wi_134_15 : ri (rt_P sc fm) 134 15 (.istore_n 1) (16) := ri_of (by decide +kernel) rfl
theorem wi_134_16 : ri (rt_P sc fm) 134 16 (.iload_n 1) (17) := ri_of (by decide +kernel) rfl
theorem wi_134_17 : ri (rt_P sc fm) 134 17 (.ldc_w 267) (20) := ri_of (by decide +kernel) rfl
theorem wi_134_2 : ri (rt_P sc fm) 134 2 (.putfield 356) (5) := ri_of (by decide +kernel) rfl
theorem wi_134_20 : ri (rt_P sc fm) 134 20 (.if_icmp .ge 16) (23) := ri_of (by decide +kernel) rfl
theorem wi_134_23 : ri (rt_P sc fm) 134 23 (.aload_n 0) (24) := ri_of (by decide +kernel) rfl
theorem wi_134_24 : ri (rt_P sc fm) 134 24 (.getfield 308) (27) := ri_of (by decide +kernel) rfl
theorem wi_134_27 : ri (rt_P sc fm) 134 27 (.iload_n 1) (28) := ri_of (by decide +kernel) rfl
theorem wi_134_28 : ri (rt_P sc fm) 134 28 (.iconst (-1)) (29) := ri_of (by decide +kernel) rfl
theorem wi_134_29 : ri (rt_P sc fm) 134 29 (.iastore) (30) := ri_of (by decide +kernel) rfl
theorem wi_134_30 : ri (rt_P sc fm) 134 30 (.iinc 1 1) (33) := ri_of (by decide +kernel) rfl
theorem wi_134_33 : ri (rt_P sc fm) 134 33 (.goto (-17)) (36) := ri_of (by decide +kernel) rfl
theorem wi_134_36 : ri (rt_P sc fm) 134 36 (.iconst 0) (37) := ri_of (by decide +kernel) rfl
theorem wi_134_37 : ri (rt_P sc fm) 134 37 (.istore_n 1) (38) := ri_of (by decide +kernel) rfl
theorem wi_134_38 : ri (rt_P sc fm) 134 38 (.iconst 0) (39) := ri_of (by decide +kernel) rfl
theorem wi_134_39 : ri (rt_P sc fm) 134 39 (.istore_n 2) (40) := ri_of (by decide +kernel) rfl
theorem wi_134_40 : ri (rt_P sc fm) 134 40 (.iload_n 2) (41) := ri_of (by decide +kernel) rfl
theorem wi_134_41 : ri (rt_P sc fm) 134 41 (.aload_n 0) (42) := ri_of (by decide +kernel) rfl
theorem wi_134_42 : ri (rt_P sc fm) 134 42 (.getfield 447) (45) := ri_of (by decide +kernel) rfl
theorem wi_134_45 : ri (rt_P sc fm) 134 45 (.if_icmp .ge 74) (48) := ri_of (by decide +kernel) rfl
theorem wi_134_48 : ri (rt_P sc fm) 134 48 (.aload_n 0) (49) := ri_of (by decide +kernel) rfl
theorem wi_134_49 : ri (rt_P sc fm) 134 49 (.iload_n 2) (50) := ri_of (by decide +kernel) rfl
theorem wi_134_5 : ri (rt_P sc fm) 134 5 (.aload_n 0) (6) := ri_of (by decide +kernel) rfl
theorem wi_134_50 : ri (rt_P sc fm) 134 50 (.invokevirtual 871) (53) := ri_of (by decide +kernel) rfl
theorem wi_134_53 : ri (rt_P sc fm) 134 53 (.iconst 0) (54) := ri_of (by decide +kernel) rfl
theorem wi_134_54 : ri (rt_P sc fm) 134 54 (.istore_n 3) (55) := ri_of (by decide +kernel) rfl
theorem wi_134_55 : ri (rt_P sc fm) 134 55 (.iload_n 3) (56) := ri_of (by decide +kernel) rfl
theorem wi_134_56 : ri (rt_P sc fm) 134 56 (.aload_n 0) (57) := ri_of (by decide +kernel) rfl
theorem wi_134_57 : ri (rt_P sc fm) 134 57 (.getfield 859) (60) := ri_of (by decide +kernel) rfl
theorem wi_134_6 : ri (rt_P sc fm) 134 6 (.getfield 634) (9) := ri_of (by decide +kernel) rfl
theorem wi_134_60 : ri (rt_P sc fm) 134 60 (.if_icmp .ge 46) (63) := ri_of (by decide +kernel) rfl
theorem wi_134_63 : ri (rt_P sc fm) 134 63 (.aload_n 0) (64) := ri_of (by decide +kernel) rfl
theorem wi_134_64 : ri (rt_P sc fm) 134 64 (.getfield 308) (67) := ri_of (by decide +kernel) rfl
theorem wi_134_67 : ri (rt_P sc fm) 134 67 (.bipush 40) (69) := ri_of (by decide +kernel) rfl
theorem wi_134_69 : ri (rt_P sc fm) 134 69 (.aload_n 0) (70) := ri_of (by decide +kernel) rfl
theorem wi_134_70 : ri (rt_P sc fm) 134 70 (.getfield 277) (73) := ri_of (by decide +kernel) rfl
theorem wi_134_73 : ri (rt_P sc fm) 134 73 (.iload_n 3) (74) := ri_of (by decide +kernel) rfl
theorem wi_134_74 : ri (rt_P sc fm) 134 74 (.iaload) (75) := ri_of (by decide +kernel) rfl
theorem wi_134_75 : ri (rt_P sc fm) 134 75 (.imul) (76) := ri_of (by decide +kernel) rfl
theorem wi_134_76 : ri (rt_P sc fm) 134 76 (.aload_n 0) (77) := ri_of (by decide +kernel) rfl
theorem wi_134_77 : ri (rt_P sc fm) 134 77 (.getfield 280) (80) := ri_of (by decide +kernel) rfl
theorem wi_134_80 : ri (rt_P sc fm) 134 80 (.iload_n 3) (81) := ri_of (by decide +kernel) rfl
theorem wi_134_81 : ri (rt_P sc fm) 134 81 (.iaload) (82) := ri_of (by decide +kernel) rfl
theorem wi_134_82 : ri (rt_P sc fm) 134 82 (.iadd) (83) := ri_of (by decide +kernel) rfl
theorem wi_134_83 : ri (rt_P sc fm) 134 83 (.iload_n 2) (84) := ri_of (by decide +kernel) rfl
theorem wi_134_84 : ri (rt_P sc fm) 134 84 (.aload_n 0) (85) := ri_of (by decide +kernel) rfl
theorem wi_134_85 : ri (rt_P sc fm) 134 85 (.getfield 283) (88) := ri_of (by decide +kernel) rfl
theorem wi_134_88 : ri (rt_P sc fm) 134 88 (.iload_n 3) (89) := ri_of (by decide +kernel) rfl
theorem wi_134_89 : ri (rt_P sc fm) 134 89 (.iaload) (90) := ri_of (by decide +kernel) rfl
theorem wi_134_9 : ri (rt_P sc fm) 134 9 (.ifCond .ne 5) (12) := ri_of (by decide +kernel) rfl
theorem wi_134_90 : ri (rt_P sc fm) 134 90 (.invokestatic 903) (93) := ri_of (by decide +kernel) rfl
theorem wi_134_93 : ri (rt_P sc fm) 134 93 (.aload_n 0) (94) := ri_of (by decide +kernel) rfl
theorem wi_134_94 : ri (rt_P sc fm) 134 94 (.getfield 289) (97) := ri_of (by decide +kernel) rfl
theorem wi_134_97 : ri (rt_P sc fm) 134 97 (.iload_n 3) (98) := ri_of (by decide +kernel) rfl
theorem wi_134_98 : ri (rt_P sc fm) 134 98 (.iaload) (99) := ri_of (by decide +kernel) rfl
theorem wi_134_99 : ri (rt_P sc fm) 134 99 (.iastore) (100) := ri_of (by decide +kernel) rfl
set_option maxRecDepth 100000 in
theorem wk_134_267 : rx_kt (rt_P sc fm) 134 267 = some (.int (61440)) := (by decide +kernel : rt_kt 134 267 = some (.int (61440)))
set_option maxRecDepth 100000 in
theorem wm_463 : rx_ml (rt_P sc fm) 463 = 3 := (by decide +kernel : rt_ml 463 = 3)
set_option maxRecDepth 100000 in
theorem wp_134_356 : rx_pt (rt_P sc fm) 134 356 = some (15, 0, .int) := (by decide +kernel : rt_pt 134 356 = some (15, 0, .int))
set_option maxRecDepth 100000 in
theorem wp_134_894 : rx_pt (rt_P sc fm) 134 894 = some (15, 106, .boolean) := (by decide +kernel : rt_pt 134 894 = some (15, 106, .boolean))
set_option maxRecDepth 100000 in
theorem wr_134 : rx_rt (rt_P sc fm) 134 = (some FieldType.int) := (by decide +kernel : rt_rt 134 = (some FieldType.int))
/-- MarkHouseModel.weave()I -/
def d_134 (n : Nat)  (c : cS) : Option (Int32 × cS) :=
  lt (pI c 174 0 0) (fun c1 =>
  if (c1.1 174 14) = 0 then
    some ((-1), c1)
  else
    Option.bind (whl (R := (cS)) (fun s4 : Int32 × cS =>
      if 61440 ≤ s4.1 then
        some (.inr s4.2)
      else
        if ib s4.1 61440 then
        lt (pI s4.2 250 (ix s4.1) (-1)) (fun c6 =>
        lt (s4.1 + 1 : Int32) (fun v9 =>
        some (.inl (v9, c6))))
        else none) n (0, c1))
    (fun x11 : cS =>
      Option.bind (whl (R := (Int32 × cS)) (fun s14 : Int32 × Int32 × cS =>
        if (s14.2.2.1 174 15) ≤ s14.2.1 then
          some (.inr (s14.1, s14.2.2))
        else
          Option.bind (d_460 n s14.2.1 s14.2.2) (fun r15 =>
          Option.bind (whl (R := (cS)) (fun s17 : Int32 × cS =>
            if (s17.2.1 174 91) ≤ s17.1 then
              some (.inr s17.2)
            else
              if ib s17.1 15360 then
              if ib s17.1 15360 then
              if ib s17.1 15360 then
              Option.bind (d_463 n ((40 * (s17.2.1 241 (ix s17.1))) + (s17.2.1 242 (ix s17.1))) s14.2.1 (s17.2.1 243 (ix s17.1))) (fun v21 =>
              if ib s17.1 15360 then
              if ib v21 61440 then
              lt (pI s17.2 250 (ix v21) (s17.2.1 245 (ix s17.1))) (fun c24 =>
              lt (s17.1 + 1 : Int32) (fun v27 =>
              some (.inl (v27, c24))))
              else none
              else none)
              else none
              else none
              else none) n (0, r15))
          (fun x29 : cS =>
            lt ((s14.1 + (x29.1 174 91)) : Int32) (fun v31 =>
            lt (s14.2.1 + 1 : Int32) (fun v34 =>
            some (.inl (v31, v34, x29))))))) n (0, 0, x11))
      (fun x36 : Int32 × cS =>
        lt (pI x36.2 174 106 1) (fun c37 =>
        jn (fun p39 : cS =>
          some (x36.1, p39))
        (fun j139 =>
        if (c37.1 174 97) < 0 then
          j139 c37
        else
          Option.bind (d_460 n (c37.1 174 97) c37) (fun r40 =>
          j139 r40))))))
set_option maxRecDepth 100000 in
set_option maxHeartbeats 4000000 in
theorem sp_134 {F Lo n : Nat}  {c y : cS} {w : cW} {K : Int32 × cS → Prop} {Q : ((Option Value) ⊕ String) → List va_E → Prop} (hw : rOK fm w) (hF : 7 ≤ F) (hLo : 176 ≤ Lo)  (h : wp (d_134 n  c) K) (hQ : ∀ r, K r → Q (.inl (some (.int r.1))) (hq false r.2 y w)) : rs (rt_P sc fm) 134 F Lo 0 [(0, .ref 174)] [] (hq false c y w) Q := by
  unfold d_134 at h
  obtain ⟨lv, elv⟩ : ∃ lv : rx_L, lv = [(0, .ref 174)] := ⟨_, rfl⟩
  rw [← elv]
  have l0 : rx_ld lv 0 = some (.ref 174) := by rw [elv]; rfl
  refine rs_aldn wi_134_0 l0 ?_
  refine rs_pure wi_134_1 rfl ?_
  refine rs_topi (v := 0) (by decide) ?_
  obtain ⟨c1, e2, h⟩ := wp_lt h
  refine dq_pi wi_134_2 wp_134_356 tf_174_0 rfl rfl e2 ?_
  refine rs_aldn wi_134_5 l0 ?_
  refine dq_gi wi_134_6 wf_134_634 tf_174_14 ?_
  refine rs_ifne (tg := 14) wi_134_9 ⟨by decide, by decide⟩ (fun q => ?_) (fun q => ?_)
  ·
    have h := wp_neg h q
    refine rs_pure wi_134_14 rfl ?_
    refine rs_topi (v := 0) (by decide) ?_
    refine dl_istn wi_134_15 rfl (fun lv l1 t3 => ?_)
    have l0 := t3 _ _ (by decide) (Or.inl rfl) l0
    refine whl_ex (A := fun s4 : Int32 × cS => ∀ lv, rx_ld lv 0 = some (.ref 174) → rx_ld lv 1 = some (.int s4.1) → rs (rt_P sc fm) 134 F Lo 16 lv [] (hq false s4.2 y w) Q) (B := (fun x11 : cS => ∀ lv, rx_ld lv 0 = some (.ref 174) → rs (rt_P sc fm) 134 F Lo 36 lv [] (hq false x11 y w) Q)) ?_ ?_ _ _ (wp_bind h) _ l0 l1
    · intro s4 h lv l0 l1
      refine rs_ildn wi_134_16 l1 ?_
      refine rs_ldcw wi_134_17 wk_134_267 ?_
      refine rs_icge (tg := 36) wi_134_20 ⟨by decide, by decide⟩ (fun q => ?_) (fun q => ?_)
      ·
        have h := wp_pos h q
        exact h _ l0
      ·
        have h := wp_neg h q
        refine rs_aldn wi_134_23 l0 ?_
        refine dq_gr wi_134_24 wf_134_308 tf_174_107 ?_
        refine rs_ildn wi_134_27 l1 ?_
        refine rs_pure wi_134_28 rfl ?_
        refine rs_topi (v := (-1)) (by decide) ?_
        obtain ⟨g5, h⟩ := wp_gd h
        obtain ⟨c6, e7, h⟩ := wp_lt h
        refine dq_iast wi_134_29 t_250 g5 e7 ?_
        obtain ⟨v9, e10, h⟩ := wp_lt h
        refine dl_inc wi_134_30 l1 rfl e10 (fun lv l1 t8 => ?_)
        have l0 := t8 _ _ (by decide) (Or.inl rfl) l0
        refine rs_goto (tg := 16) wi_134_33 ⟨by decide, by decide⟩ ?_
        exact h _ l0 l1
    ·
      intro x11 h lv l0
      refine rs_pure wi_134_36 rfl ?_
      refine rs_topi (v := 0) (by decide) ?_
      refine dl_istn wi_134_37 rfl (fun lv l1 t12 => ?_)
      have l0 := t12 _ _ (by decide) (Or.inl rfl) l0
      refine rs_pure wi_134_38 rfl ?_
      refine rs_topi (v := 0) (by decide) ?_
      refine dl_istn wi_134_39 rfl (fun lv l2 t13 => ?_)
      have l0 := t13 _ _ (by decide) (Or.inl rfl) l0
      have l1 := t13 _ _ (by decide) (Or.inl rfl) l1
      refine whl_ex (A := fun s14 : Int32 × Int32 × cS => ∀ lv, rx_ld lv 0 = some (.ref 174) → rx_ld lv 1 = some (.int s14.1) → rx_ld lv 2 = some (.int s14.2.1) → rs (rt_P sc fm) 134 F Lo 40 lv [] (hq false s14.2.2 y w) Q) (B := (fun x36 : Int32 × cS => ∀ lv, rx_ld lv 0 = some (.ref 174) → rx_ld lv 1 = some (.int x36.1) → rs (rt_P sc fm) 134 F Lo 119 lv [] (hq false x36.2 y w) Q)) ?_ ?_ _ _ (wp_bind h) _ l0 l1 l2
      · intro s14 h lv l0 l1 l2
        refine rs_ildn wi_134_40 l2 ?_
        refine rs_aldn wi_134_41 l0 ?_
        refine dq_gi wi_134_42 wf_134_447 tf_174_15 ?_
        refine rs_icge (tg := 119) wi_134_45 ⟨by decide, by decide⟩ (fun q => ?_) (fun q => ?_)
        ·
          have h := wp_pos h q
          exact h _ l0 l1
        ·
          have h := wp_neg h q
          refine rs_aldn wi_134_48 l0 ?_
          refine rs_ildn wi_134_49 l2 ?_
          refine rs_V wi_134_50 wc_134_871 rfl (dq_isa tf_174_0 wa_15_460) (Nat.le_trans (by decide) hF) (ml_le wm_460 (Nat.le_trans (by decide) hLo)) rfl (sp_460 hw (Nat.le_trans (by decide : 6 ≤ 7 - 1) (Nat.sub_le_sub_right hF 1)) (ml_sub wm_460 (Nat.le_trans (by decide : 149 ≤ 176 - 27) (Nat.sub_le_sub_right hLo 27))) (wp_bind h) (fun r15 h => rs_back0 ?_))
          refine rs_pure wi_134_53 rfl ?_
          refine rs_topi (v := 0) (by decide) ?_
          refine dl_istn wi_134_54 rfl (fun lv l3 t16 => ?_)
          have l0 := t16 _ _ (by decide) (Or.inl rfl) l0
          have l1 := t16 _ _ (by decide) (Or.inl rfl) l1
          have l2 := t16 _ _ (by decide) (Or.inl rfl) l2
          refine whl_ex (A := fun s17 : Int32 × cS => ∀ lv, rx_ld lv 0 = some (.ref 174) → rx_ld lv 1 = some (.int s14.1) → rx_ld lv 2 = some (.int s14.2.1) → rx_ld lv 3 = some (.int s17.1) → rs (rt_P sc fm) 134 F Lo 55 lv [] (hq false s17.2 y w) Q) (B := (fun x29 : cS => ∀ lv, rx_ld lv 0 = some (.ref 174) → rx_ld lv 1 = some (.int s14.1) → rx_ld lv 2 = some (.int s14.2.1) → rs (rt_P sc fm) 134 F Lo 106 lv [] (hq false x29 y w) Q)) ?_ ?_ _ _ (wp_bind h) _ l0 l1 l2 l3
          · intro s17 h lv l0 l1 l2 l3
            refine rs_ildn wi_134_55 l3 ?_
            refine rs_aldn wi_134_56 l0 ?_
            refine dq_gi wi_134_57 wf_134_859 tf_174_91 ?_
            refine rs_icge (tg := 106) wi_134_60 ⟨by decide, by decide⟩ (fun q => ?_) (fun q => ?_)
            ·
              have h := wp_pos h q
              exact h _ l0 l1 l2
            ·
              have h := wp_neg h q
              refine rs_aldn wi_134_63 l0 ?_
              refine dq_gr wi_134_64 wf_134_308 tf_174_107 ?_
              refine rs_pure wi_134_67 rfl ?_
              refine rs_topi (v := 40) (by decide) ?_
              refine rs_aldn wi_134_69 l0 ?_
              refine dq_gr wi_134_70 wf_134_277 tf_174_92 ?_
              refine rs_ildn wi_134_73 l3 ?_
              obtain ⟨g18, h⟩ := wp_gd h
              refine dq_iald wi_134_74 t_241 g18 ?_
              refine rs_pure wi_134_75 rfl ?_
              refine rs_aldn wi_134_76 l0 ?_
              refine dq_gr wi_134_77 wf_134_280 tf_174_93 ?_
              refine rs_ildn wi_134_80 l3 ?_
              obtain ⟨g19, h⟩ := wp_gd h
              refine dq_iald wi_134_81 t_242 g19 ?_
              refine rs_pure wi_134_82 rfl ?_
              refine rs_ildn wi_134_83 l2 ?_
              refine rs_aldn wi_134_84 l0 ?_
              refine dq_gr wi_134_85 wf_134_283 tf_174_94 ?_
              refine rs_ildn wi_134_88 l3 ?_
              obtain ⟨g20, h⟩ := wp_gd h
              refine dq_iald wi_134_89 t_243 g20 ?_
              refine rs_S wi_134_90 wc_134_903 (Or.inl rfl) rfl (Nat.le_trans (by decide) hF) (ml_le wm_463 (Nat.le_trans (by decide) hLo)) rfl (sp_463 (Nat.le_trans (by decide : 0 ≤ 7 - 1) (Nat.sub_le_sub_right hF 1)) (ml_sub wm_463 (Nat.le_trans (by decide : 0 ≤ 176 - 22) (Nat.sub_le_sub_right hLo 22))) (wp_bind h) (fun v21 h => rs_back1 ?_))
              refine rs_aldn wi_134_93 l0 ?_
              refine dq_gr wi_134_94 wf_134_289 tf_174_96 ?_
              refine rs_ildn wi_134_97 l3 ?_
              obtain ⟨g22, h⟩ := wp_gd h
              refine dq_iald wi_134_98 t_245 g22 ?_
              obtain ⟨g23, h⟩ := wp_gd h
              obtain ⟨c24, e25, h⟩ := wp_lt h
              refine dq_iast wi_134_99 t_250 g23 e25 ?_
              obtain ⟨v27, e28, h⟩ := wp_lt h
              refine dl_inc wi_134_100 l3 rfl e28 (fun lv l3 t26 => ?_)
              have l0 := t26 _ _ (by decide) (Or.inl rfl) l0
              have l1 := t26 _ _ (by decide) (Or.inl rfl) l1
              have l2 := t26 _ _ (by decide) (Or.inl rfl) l2
              refine rs_goto (tg := 55) wi_134_103 ⟨by decide, by decide⟩ ?_
              exact h _ l0 l1 l2 l3
          ·
            intro x29 h lv l0 l1 l2
            refine rs_ildn wi_134_106 l1 ?_
            refine rs_aldn wi_134_107 l0 ?_
            refine dq_gi wi_134_108 wf_134_859 tf_174_91 ?_
            refine rs_pure wi_134_111 rfl ?_
            obtain ⟨v31, e32, h⟩ := wp_lt h
            refine rs_topi e32 ?_
            refine dl_istn wi_134_112 rfl (fun lv l1 t30 => ?_)
            have l0 := t30 _ _ (by decide) (Or.inl rfl) l0
            have l2 := t30 _ _ (by decide) (Or.inl rfl) l2
            obtain ⟨v34, e35, h⟩ := wp_lt h
            refine dl_inc wi_134_113 l2 rfl e35 (fun lv l2 t33 => ?_)
            have l0 := t33 _ _ (by decide) (Or.inl rfl) l0
            have l1 := t33 _ _ (by decide) (Or.inl rfl) l1
            refine rs_goto (tg := 40) wi_134_116 ⟨by decide, by decide⟩ ?_
            exact h _ l0 l1 l2
      ·
        intro x36 h lv l0 l1
        refine rs_aldn wi_134_119 l0 ?_
        refine rs_pure wi_134_120 rfl ?_
        refine rs_topi (v := 1) (by decide) ?_
        obtain ⟨c37, e38, h⟩ := wp_lt h
        refine dq_pi wi_134_121 wp_134_894 tf_174_106 (nb_n (by decide)) (nb_f (by decide)) e38 ?_
        refine rs_aldn wi_134_124 l0 ?_
        refine dq_gi wi_134_125 wf_134_292 tf_174_97 ?_
        refine wp_jn (B := fun p39 : cS => ∀ lv, rx_ld lv 1 = some (.int x36.1) → rs (rt_P sc fm) 134 F Lo 139 lv [] (hq false p39 y w) Q) h (fun p39 h lv l1 => ?_) (fun j139 hj139 h => ?_)
        ·
          refine rs_ildn wi_134_139 l1 ?_
          exact rs_iret wi_134_140 wr_134 rfl (hQ (x36.1, p39) h)
        refine rs_iflt (tg := 139) wi_134_128 ⟨by decide, by decide⟩ (fun q => ?_) (fun q => ?_)
        ·
          have h := wp_pos h q
          exact hj139 _ h _ l1
        ·
          have h := wp_neg h q
          refine rs_aldn wi_134_131 l0 ?_
          refine rs_aldn wi_134_132 l0 ?_
          refine dq_gi wi_134_133 wf_134_292 tf_174_97 ?_
          refine rs_V wi_134_136 wc_134_871 rfl (dq_isa tf_174_0 wa_15_460) (Nat.le_trans (by decide) hF) (ml_le wm_460 (Nat.le_trans (by decide) hLo)) rfl (sp_460 hw (Nat.le_trans (by decide : 6 ≤ 7 - 1) (Nat.sub_le_sub_right hF 1)) (ml_sub wm_460 (Nat.le_trans (by decide : 149 ≤ 176 - 27) (Nat.sub_le_sub_right hLo 27))) (wp_bind h) (fun r40 h => rs_back0 ?_))
          exact hj139 _ h _ l1
  ·
    have h := wp_pos h q
    refine rs_pure wi_134_12 rfl ?_
    refine rs_topi (v := (-1)) (by decide) ?_
    exact rs_iret wi_134_13 wr_134 rfl (hQ ((-1), c1) h)
set_option maxRecDepth 100000 in
theorem wsb_35 : (rt_sb 35).isSome = true := by decide +kernel
set_option maxRecDepth 100000 in
theorem wc_135_402 : rx_ct (rt_P sc fm) 135 402 = some (0, 362, 1) := (by decide +kernel : rt_ct 135 402 = some (0, 362, 1))
set_option maxRecDepth 100000 in
theorem wc_135_406 : rx_ct (rt_P sc fm) 135 406 = some (0, 364, 1) := (by decide +kernel : rt_ct 135 406 = some (0, 364, 1))
set_option maxRecDepth 100000 in
theorem wc_135_658 : rx_ct (rt_P sc fm) 135 658 = some (1, 421, 1) := (by decide +kernel : rt_ct 135 658 = some (1, 421, 1))
set_option maxRecDepth 100000 in
theorem wc_135_721 : rx_ct (rt_P sc fm) 135 721 = some (0, 111, 1) := (by decide +kernel : rt_ct 135 721 = some (0, 111, 1))
set_option maxRecDepth 100000 in
theorem wc_135_808 : rx_ct (rt_P sc fm) 135 808 = some (0, 447, 4) := (by decide +kernel : rt_ct 135 808 = some (0, 447, 4))
set_option maxRecDepth 100000 in
theorem wc_135_813 : rx_ct (rt_P sc fm) 135 813 = some (0, 448, 2) := (by decide +kernel : rt_ct 135 813 = some (0, 448, 2))
set_option maxRecDepth 100000 in
theorem wc_135_865 : rx_ct (rt_P sc fm) 135 865 = some (0, 459, 2) := (by decide +kernel : rt_ct 135 865 = some (0, 459, 2))
set_option maxRecDepth 100000 in
theorem wc_135_903 : rx_ct (rt_P sc fm) 135 903 = some (1, 463, 3) := (by decide +kernel : rt_ct 135 903 = some (1, 463, 3))
set_option maxRecDepth 100000 in
theorem wf_135_182 : rx_ft (rt_P sc fm) 135 182 = some (15, 48) := (by decide +kernel : rt_ft 135 182 = some (15, 48))
set_option maxRecDepth 100000 in
theorem wf_135_308 : rx_ft (rt_P sc fm) 135 308 = some (15, 107) := (by decide +kernel : rt_ft 135 308 = some (15, 107))
set_option maxRecDepth 100000 in
theorem wf_135_366 : rx_ft (rt_P sc fm) 135 366 = some (15, 4) := (by decide +kernel : rt_ft 135 366 = some (15, 4))
set_option maxRecDepth 100000 in
theorem wf_135_447 : rx_ft (rt_P sc fm) 135 447 = some (15, 15) := (by decide +kernel : rt_ft 135 447 = some (15, 15))
set_option maxRecDepth 100000 in
theorem wf_135_894 : rx_ft (rt_P sc fm) 135 894 = some (15, 106) := (by decide +kernel : rt_ft 135 894 = some (15, 106))
theorem wi_135_0 : ri (rt_P sc fm) 135 0 (.aload_n 0) (1) := ri_of (by decide +kernel) rfl
theorem wi_135_1 : ri (rt_P sc fm) 135 1 (.iconst 0) (2) := ri_of (by decide +kernel) rfl
theorem wi_135_10 : ri (rt_P sc fm) 135 10 (.ifCond .ne 5) (13) := ri_of (by decide +kernel) rfl
theorem wi_135_102 : ri (rt_P sc fm) 135 102 (.goto 50) (105) := ri_of (by decide +kernel) rfl
theorem wi_135_105 : ri (rt_P sc fm) 135 105 (.aload_n 0) (106) := ri_of (by decide +kernel) rfl
theorem wi_135_106 : ri (rt_P sc fm) 135 106 (.ldc_w 909) (109) := ri_of (by decide +kernel) rfl
theorem wi_135_109 : ri (rt_P sc fm) 135 109 (.invokevirtual 402) (112) := ri_of (by decide +kernel) rfl
theorem wi_135_112 : ri (rt_P sc fm) 135 112 (.aload_n 0) (113) := ri_of (by decide +kernel) rfl
theorem wi_135_113 : ri (rt_P sc fm) 135 113 (.iload 6) (115) := ri_of (by decide +kernel) rfl
theorem wi_135_115 : ri (rt_P sc fm) 135 115 (.aload_n 0) (116) := ri_of (by decide +kernel) rfl
theorem wi_135_116 : ri (rt_P sc fm) 135 116 (.getfield 308) (119) := ri_of (by decide +kernel) rfl
theorem wi_135_119 : ri (rt_P sc fm) 135 119 (.iload 5) (121) := ri_of (by decide +kernel) rfl
theorem wi_135_121 : ri (rt_P sc fm) 135 121 (.iload 6) (123) := ri_of (by decide +kernel) rfl
theorem wi_135_123 : ri (rt_P sc fm) 135 123 (.iload 7) (125) := ri_of (by decide +kernel) rfl
theorem wi_135_125 : ri (rt_P sc fm) 135 125 (.invokestatic 903) (128) := ri_of (by decide +kernel) rfl
theorem wi_135_128 : ri (rt_P sc fm) 135 128 (.iaload) (129) := ri_of (by decide +kernel) rfl
theorem wi_135_129 : ri (rt_P sc fm) 135 129 (.invokevirtual 813) (132) := ri_of (by decide +kernel) rfl
theorem wi_135_13 : ri (rt_P sc fm) 135 13 (.iconst (-1)) (14) := ri_of (by decide +kernel) rfl
theorem wi_135_132 : ri (rt_P sc fm) 135 132 (.aload_n 0) (133) := ri_of (by decide +kernel) rfl
theorem wi_135_133 : ri (rt_P sc fm) 135 133 (.aload_n 0) (134) := ri_of (by decide +kernel) rfl
theorem wi_135_134 : ri (rt_P sc fm) 135 134 (.iload 5) (136) := ri_of (by decide +kernel) rfl
theorem wi_135_136 : ri (rt_P sc fm) 135 136 (.iload 7) (138) := ri_of (by decide +kernel) rfl
theorem wi_135_138 : ri (rt_P sc fm) 135 138 (.invokevirtual 865) (141) := ri_of (by decide +kernel) rfl
theorem wi_135_14 : ri (rt_P sc fm) 135 14 (.ireturn) (15) := ri_of (by decide +kernel) rfl
theorem wi_135_141 : ri (rt_P sc fm) 135 141 (.i2l) (142) := ri_of (by decide +kernel) rfl
theorem wi_135_142 : ri (rt_P sc fm) 135 142 (.invokevirtual 406) (145) := ri_of (by decide +kernel) rfl
theorem wi_135_145 : ri (rt_P sc fm) 135 145 (.aload_n 0) (146) := ri_of (by decide +kernel) rfl
theorem wi_135_146 : ri (rt_P sc fm) 135 146 (.ldc_w 801) (149) := ri_of (by decide +kernel) rfl
theorem wi_135_149 : ri (rt_P sc fm) 135 149 (.invokevirtual 402) (152) := ri_of (by decide +kernel) rfl
theorem wi_135_15 : ri (rt_P sc fm) 135 15 (.iload_n 1) (16) := ri_of (by decide +kernel) rfl
theorem wi_135_152 : ri (rt_P sc fm) 135 152 (.iinc 7 1) (155) := ri_of (by decide +kernel) rfl
theorem wi_135_155 : ri (rt_P sc fm) 135 155 (.goto (-76)) (158) := ri_of (by decide +kernel) rfl
theorem wi_135_158 : ri (rt_P sc fm) 135 158 (.iinc 6 1) (161) := ri_of (by decide +kernel) rfl
theorem wi_135_16 : ri (rt_P sc fm) 135 16 (.invokestatic 658) (19) := ri_of (by decide +kernel) rfl
theorem wi_135_161 : ri (rt_P sc fm) 135 161 (.goto (-105)) (164) := ri_of (by decide +kernel) rfl
theorem wi_135_164 : ri (rt_P sc fm) 135 164 (.aload_n 0) (165) := ri_of (by decide +kernel) rfl
theorem wi_135_165 : ri (rt_P sc fm) 135 165 (.iload_n 3) (166) := ri_of (by decide +kernel) rfl
theorem wi_135_166 : ri (rt_P sc fm) 135 166 (.iload 5) (168) := ri_of (by decide +kernel) rfl
theorem wi_135_168 : ri (rt_P sc fm) 135 168 (.iconst 1) (169) := ri_of (by decide +kernel) rfl
theorem wi_135_169 : ri (rt_P sc fm) 135 169 (.iload_n 2) (170) := ri_of (by decide +kernel) rfl
theorem wi_135_170 : ri (rt_P sc fm) 135 170 (.invokevirtual 808) (173) := ri_of (by decide +kernel) rfl
theorem wi_135_173 : ri (rt_P sc fm) 135 173 (.aload_n 0) (174) := ri_of (by decide +kernel) rfl
theorem wi_135_174 : ri (rt_P sc fm) 135 174 (.ldc_w 801) (177) := ri_of (by decide +kernel) rfl
theorem wi_135_177 : ri (rt_P sc fm) 135 177 (.invokevirtual 402) (180) := ri_of (by decide +kernel) rfl
theorem wi_135_180 : ri (rt_P sc fm) 135 180 (.iinc 4 1) (183) := ri_of (by decide +kernel) rfl
theorem wi_135_183 : ri (rt_P sc fm) 135 183 (.goto (-150)) (186) := ri_of (by decide +kernel) rfl
theorem wi_135_186 : ri (rt_P sc fm) 135 186 (.aload_n 0) (187) := ri_of (by decide +kernel) rfl
theorem wi_135_187 : ri (rt_P sc fm) 135 187 (.getfield 366) (190) := ri_of (by decide +kernel) rfl
theorem wi_135_19 : ri (rt_P sc fm) 135 19 (.istore_n 3) (20) := ri_of (by decide +kernel) rfl
theorem wi_135_190 : ri (rt_P sc fm) 135 190 (.ireturn) (191) := ri_of (by decide +kernel) rfl
theorem wi_135_2 : ri (rt_P sc fm) 135 2 (.putfield 356) (5) := ri_of (by decide +kernel) rfl
theorem wi_135_20 : ri (rt_P sc fm) 135 20 (.aload_n 0) (21) := ri_of (by decide +kernel) rfl
theorem wi_135_21 : ri (rt_P sc fm) 135 21 (.iconst 0) (22) := ri_of (by decide +kernel) rfl
theorem wi_135_22 : ri (rt_P sc fm) 135 22 (.putfield 366) (25) := ri_of (by decide +kernel) rfl
theorem wi_135_25 : ri (rt_P sc fm) 135 25 (.aload_n 0) (26) := ri_of (by decide +kernel) rfl
theorem wi_135_26 : ri (rt_P sc fm) 135 26 (.iconst 0) (27) := ri_of (by decide +kernel) rfl
theorem wi_135_27 : ri (rt_P sc fm) 135 27 (.putfield 378) (30) := ri_of (by decide +kernel) rfl
theorem wi_135_30 : ri (rt_P sc fm) 135 30 (.iconst 0) (31) := ri_of (by decide +kernel) rfl
theorem wi_135_31 : ri (rt_P sc fm) 135 31 (.istore 4) (33) := ri_of (by decide +kernel) rfl
theorem wi_135_33 : ri (rt_P sc fm) 135 33 (.iload 4) (35) := ri_of (by decide +kernel) rfl
theorem wi_135_35 : ri (rt_P sc fm) 135 35 (.aload_n 0) (36) := ri_of (by decide +kernel) rfl
theorem wi_135_36 : ri (rt_P sc fm) 135 36 (.getfield 182) (39) := ri_of (by decide +kernel) rfl
theorem wi_135_39 : ri (rt_P sc fm) 135 39 (.iload_n 3) (40) := ri_of (by decide +kernel) rfl
theorem wi_135_40 : ri (rt_P sc fm) 135 40 (.iaload) (41) := ri_of (by decide +kernel) rfl
theorem wi_135_41 : ri (rt_P sc fm) 135 41 (.if_icmp .ge 145) (44) := ri_of (by decide +kernel) rfl
theorem wi_135_44 : ri (rt_P sc fm) 135 44 (.bipush 40) (46) := ri_of (by decide +kernel) rfl
theorem wi_135_46 : ri (rt_P sc fm) 135 46 (.iload_n 3) (47) := ri_of (by decide +kernel) rfl
theorem wi_135_47 : ri (rt_P sc fm) 135 47 (.imul) (48) := ri_of (by decide +kernel) rfl
theorem wi_135_48 : ri (rt_P sc fm) 135 48 (.iload 4) (50) := ri_of (by decide +kernel) rfl
theorem wi_135_5 : ri (rt_P sc fm) 135 5 (.aload_n 0) (6) := ri_of (by decide +kernel) rfl
theorem wi_135_50 : ri (rt_P sc fm) 135 50 (.iadd) (51) := ri_of (by decide +kernel) rfl
theorem wi_135_51 : ri (rt_P sc fm) 135 51 (.istore 5) (53) := ri_of (by decide +kernel) rfl
theorem wi_135_53 : ri (rt_P sc fm) 135 53 (.iconst 0) (54) := ri_of (by decide +kernel) rfl
theorem wi_135_54 : ri (rt_P sc fm) 135 54 (.istore 6) (56) := ri_of (by decide +kernel) rfl
theorem wi_135_56 : ri (rt_P sc fm) 135 56 (.iload 6) (58) := ri_of (by decide +kernel) rfl
theorem wi_135_58 : ri (rt_P sc fm) 135 58 (.aload_n 0) (59) := ri_of (by decide +kernel) rfl
theorem wi_135_59 : ri (rt_P sc fm) 135 59 (.getfield 447) (62) := ri_of (by decide +kernel) rfl
theorem wi_135_6 : ri (rt_P sc fm) 135 6 (.iload_n 1) (7) := ri_of (by decide +kernel) rfl
theorem wi_135_62 : ri (rt_P sc fm) 135 62 (.if_icmp .ge 102) (65) := ri_of (by decide +kernel) rfl
theorem wi_135_65 : ri (rt_P sc fm) 135 65 (.iload_n 2) (66) := ri_of (by decide +kernel) rfl
theorem wi_135_66 : ri (rt_P sc fm) 135 66 (.ifCond .eq 98) (69) := ri_of (by decide +kernel) rfl
theorem wi_135_69 : ri (rt_P sc fm) 135 69 (.aload_n 0) (70) := ri_of (by decide +kernel) rfl
theorem wi_135_7 : ri (rt_P sc fm) 135 7 (.invokevirtual 721) (10) := ri_of (by decide +kernel) rfl
theorem wi_135_70 : ri (rt_P sc fm) 135 70 (.getfield 894) (73) := ri_of (by decide +kernel) rfl
theorem wi_135_73 : ri (rt_P sc fm) 135 73 (.ifCond .eq 91) (76) := ri_of (by decide +kernel) rfl
theorem wi_135_76 : ri (rt_P sc fm) 135 76 (.iconst 0) (77) := ri_of (by decide +kernel) rfl
theorem wi_135_77 : ri (rt_P sc fm) 135 77 (.istore 7) (79) := ri_of (by decide +kernel) rfl
theorem wi_135_79 : ri (rt_P sc fm) 135 79 (.iload 7) (81) := ri_of (by decide +kernel) rfl
theorem wi_135_81 : ri (rt_P sc fm) 135 81 (.iconst 4) (82) := ri_of (by decide +kernel) rfl
theorem wi_135_82 : ri (rt_P sc fm) 135 82 (.if_icmp .ge 76) (85) := ri_of (by decide +kernel) rfl
theorem wi_135_85 : ri (rt_P sc fm) 135 85 (.aload_n 0) (86) := ri_of (by decide +kernel) rfl
theorem wi_135_86 : ri (rt_P sc fm) 135 86 (.getfield 308) (89) := ri_of (by decide +kernel) rfl
theorem wi_135_89 : ri (rt_P sc fm) 135 89 (.iload 5) (91) := ri_of (by decide +kernel) rfl
theorem wi_135_91 : ri (rt_P sc fm) 135 91 (.iload 6) (93) := ri_of (by decide +kernel) rfl
theorem wi_135_93 : ri (rt_P sc fm) 135 93 (.iload 7) (95) := ri_of (by decide +kernel) rfl
theorem wi_135_95 : ri (rt_P sc fm) 135 95 (.invokestatic 903) (98) := ri_of (by decide +kernel) rfl
theorem wi_135_98 : ri (rt_P sc fm) 135 98 (.iaload) (99) := ri_of (by decide +kernel) rfl
theorem wi_135_99 : ri (rt_P sc fm) 135 99 (.ifCond .ge 6) (102) := ri_of (by decide +kernel) rfl
set_option maxRecDepth 100000 in
theorem wk_135_801 : rx_kt (rt_P sc fm) 135 801 = some (.ref (rx_K 34)) := (by decide +kernel : rt_kt 135 801 = some (.ref (rx_K 34)))
set_option maxRecDepth 100000 in
theorem wk_135_909 : rx_kt (rt_P sc fm) 135 909 = some (.ref (rx_K 35)) := (by decide +kernel : rt_kt 135 909 = some (.ref (rx_K 35)))
set_option maxRecDepth 100000 in
theorem wp_135_356 : rx_pt (rt_P sc fm) 135 356 = some (15, 0, .int) := (by decide +kernel : rt_pt 135 356 = some (15, 0, .int))
set_option maxRecDepth 100000 in
theorem wp_135_366 : rx_pt (rt_P sc fm) 135 366 = some (15, 4, .int) := (by decide +kernel : rt_pt 135 366 = some (15, 4, .int))
set_option maxRecDepth 100000 in
theorem wp_135_378 : rx_pt (rt_P sc fm) 135 378 = some (15, 5, .boolean) := (by decide +kernel : rt_pt 135 378 = some (15, 5, .boolean))
set_option maxRecDepth 100000 in
theorem wr_135 : rx_rt (rt_P sc fm) 135 = (some FieldType.int) := (by decide +kernel : rt_rt 135 = (some FieldType.int))
/-- MarkHouseModel.code(IZ)I -/
def d_135 (n : Nat) (a1 : Int32) (a2 : Int32) (c : cS) : Option (Int32 × cS) :=
  lt (pI c 174 0 0) (fun c1 =>
  Option.bind (d_111 n a1 c1) (fun v3 =>
  if v3 = 0 then
    some ((-1), c1)
  else
    Option.bind (d_421 n a1) (fun v4 =>
    lt (pI c1 174 4 0) (fun c6 =>
    lt (pI c6 174 5 0) (fun c8 =>
    Option.bind (whl (R := (cS)) (fun s11 : Int32 × cS =>
      if ib v4 96 then
      if (s11.2.1 210 (ix v4)) ≤ s11.1 then
        some (.inr s11.2)
      else
        lt (((40 * v4) + s11.1) : Int32) (fun v14 =>
        Option.bind (whl (R := (cS)) (fun s17 : Int32 × cS =>
          if (s17.2.1 174 15) ≤ s17.1 then
            some (.inr s17.2)
          else
            if a2 = 0 then
              some (.inr s17.2)
            else
              if (s17.2.1 174 106) = 0 then
                some (.inr s17.2)
              else
                Option.bind (whl (R := (cS)) (fun s19 : Int32 × cS =>
                  if 4 ≤ s19.1 then
                    some (.inr s19.2)
                  else
                    Option.bind (d_463 n v14 s17.1 s19.1) (fun v20 =>
                    if ib v20 61440 then
                    jn (fun p22 : cS =>
                      lt (s19.1 + 1 : Int32) (fun v24 =>
                      some (.inl (v24, p22))))
                    (fun j152 =>
                    if 0 ≤ (s19.2.1 250 (ix v20)) then
                      Option.bind (d_362 n 35 s19.2) (fun r26 =>
                      Option.bind (d_463 n v14 s17.1 s19.1) (fun v27 =>
                      if ib v27 61440 then
                      Option.bind (d_448 n s17.1 (r26.1 250 (ix v27)) r26) (fun r29 =>
                      Option.bind (d_459 n v14 s19.1 r29) (fun v30 =>
                      Option.bind (d_364 n ((v30 : Int32).toInt64) r29) (fun r31 =>
                      Option.bind (d_362 n 34 r31) (fun r32 =>
                      j152 r32))))
                      else none))
                    else
                      j152 s19.2)
                    else none)) n (0, s17.2))
                (fun x33 : cS =>
                  lt (s17.1 + 1 : Int32) (fun v35 =>
                  some (.inl (v35, x33))))) n (0, s11.2))
        (fun x37 : cS =>
          Option.bind (d_447 n v4 v14 1 a2 x37) (fun r38 =>
          Option.bind (d_362 n 34 r38) (fun r39 =>
          lt (s11.1 + 1 : Int32) (fun v41 =>
          some (.inl (v41, r39)))))))
      else none) n (0, c8))
    (fun x43 : cS =>
      some ((x43.1 174 4), x43)))))))
set_option maxRecDepth 100000 in
set_option maxHeartbeats 4000000 in
theorem sp_135 {F Lo n : Nat} {a1 : Int32} {a2 : Int32} {c y : cS} {w : cW} {K : Int32 × cS → Prop} {Q : ((Option Value) ⊕ String) → List va_E → Prop} (hw : rOK fm w) (hF : 7 ≤ F) (hLo : 154 ≤ Lo)  (h : wp (d_135 n a1 a2 c) K) (hQ : ∀ r, K r → Q (.inl (some (.int r.1))) (hq false r.2 y w)) : rs (rt_P sc fm) 135 F Lo 0 [(0, .ref 174), (1, .int a1), (2, .int a2)] [] (hq false c y w) Q := by
  unfold d_135 at h
  obtain ⟨lv, elv⟩ : ∃ lv : rx_L, lv = [(0, .ref 174), (1, .int a1), (2, .int a2)] := ⟨_, rfl⟩
  rw [← elv]
  have l0 : rx_ld lv 0 = some (.ref 174) := by rw [elv]; rfl
  have l1 : rx_ld lv 1 = some (.int a1) := by rw [elv]; rfl
  have l2 : rx_ld lv 2 = some (.int a2) := by rw [elv]; rfl
  refine rs_aldn wi_135_0 l0 ?_
  refine rs_pure wi_135_1 rfl ?_
  refine rs_topi (v := 0) (by decide) ?_
  obtain ⟨c1, e2, h⟩ := wp_lt h
  refine dq_pi wi_135_2 wp_135_356 tf_174_0 rfl rfl e2 ?_
  refine rs_aldn wi_135_5 l0 ?_
  refine rs_ildn wi_135_6 l1 ?_
  refine rs_V wi_135_7 wc_135_721 rfl (dq_isa tf_174_0 wa_15_111) (Nat.le_trans (by decide) hF) (ml_le wm_111 (Nat.le_trans (by decide) hLo)) rfl (sp_111 hw (Nat.le_trans (by decide : 1 ≤ 7 - 1) (Nat.sub_le_sub_right hF 1)) (ml_sub wm_111 (Nat.le_trans (by decide : 24 ≤ 154 - 21) (Nat.sub_le_sub_right hLo 21))) (wp_bind h) (fun v3 h => rs_back1 ?_))
  refine rs_ifne (tg := 15) wi_135_10 ⟨by decide, by decide⟩ (fun q => ?_) (fun q => ?_)
  ·
    have h := wp_neg h q
    refine rs_ildn wi_135_15 l1 ?_
    refine rs_S wi_135_16 wc_135_658 (Or.inl rfl) rfl (Nat.le_trans (by decide) hF) (ml_le wm_421 (Nat.le_trans (by decide) hLo)) rfl (sp_421 (Nat.le_trans (by decide : 0 ≤ 7 - 1) (Nat.sub_le_sub_right hF 1)) (ml_sub wm_421 (Nat.le_trans (by decide : 0 ≤ 154 - 20) (Nat.sub_le_sub_right hLo 20))) (wp_bind h) (fun v4 h => rs_back1 ?_))
    refine dl_istn wi_135_19 rfl (fun lv l3 t5 => ?_)
    have l0 := t5 _ _ (by decide) (Or.inl rfl) l0
    have l2 := t5 _ _ (by decide) (Or.inl rfl) l2
    refine rs_aldn wi_135_20 l0 ?_
    refine rs_pure wi_135_21 rfl ?_
    refine rs_topi (v := 0) (by decide) ?_
    obtain ⟨c6, e7, h⟩ := wp_lt h
    refine dq_pi wi_135_22 wp_135_366 tf_174_4 rfl rfl e7 ?_
    refine rs_aldn wi_135_25 l0 ?_
    refine rs_pure wi_135_26 rfl ?_
    refine rs_topi (v := 0) (by decide) ?_
    obtain ⟨c8, e9, h⟩ := wp_lt h
    refine dq_pi wi_135_27 wp_135_378 tf_174_5 (nb_n (by decide)) (nb_f (by decide)) e9 ?_
    refine rs_pure wi_135_30 rfl ?_
    refine rs_topi (v := 0) (by decide) ?_
    refine dl_ist wi_135_31 rfl (fun lv l4 t10 => ?_)
    have l0 := t10 _ _ (by decide) (Or.inl rfl) l0
    have l2 := t10 _ _ (by decide) (Or.inl rfl) l2
    have l3 := t10 _ _ (by decide) (Or.inl rfl) l3
    refine whl_ex (A := fun s11 : Int32 × cS => ∀ lv, rx_ld lv 0 = some (.ref 174) → rx_ld lv 2 = some (.int a2) → rx_ld lv 3 = some (.int v4) → rx_ld lv 4 = some (.int s11.1) → rs (rt_P sc fm) 135 F Lo 33 lv [] (hq false s11.2 y w) Q) (B := (fun x43 : cS => ∀ lv, rx_ld lv 0 = some (.ref 174) → rs (rt_P sc fm) 135 F Lo 186 lv [] (hq false x43 y w) Q)) ?_ ?_ _ _ (wp_bind h) _ l0 l2 l3 l4
    · intro s11 h lv l0 l2 l3 l4
      refine rs_ild wi_135_33 l4 ?_
      refine rs_aldn wi_135_35 l0 ?_
      refine dq_gr wi_135_36 wf_135_182 tf_174_48 ?_
      refine rs_ildn wi_135_39 l3 ?_
      obtain ⟨g12, h⟩ := wp_gd h
      refine dq_iald wi_135_40 t_210 g12 ?_
      refine rs_icge (tg := 186) wi_135_41 ⟨by decide, by decide⟩ (fun q => ?_) (fun q => ?_)
      ·
        have h := wp_pos h q
        exact h _ l0
      ·
        have h := wp_neg h q
        refine rs_pure wi_135_44 rfl ?_
        refine rs_topi (v := 40) (by decide) ?_
        refine rs_ildn wi_135_46 l3 ?_
        refine rs_pure wi_135_47 rfl ?_
        refine rs_ild wi_135_48 l4 ?_
        refine rs_pure wi_135_50 rfl ?_
        obtain ⟨v14, e15, h⟩ := wp_lt h
        refine rs_topi e15 ?_
        refine dl_ist wi_135_51 rfl (fun lv l5 t13 => ?_)
        have l0 := t13 _ _ (by decide) (Or.inl rfl) l0
        have l2 := t13 _ _ (by decide) (Or.inl rfl) l2
        have l3 := t13 _ _ (by decide) (Or.inl rfl) l3
        have l4 := t13 _ _ (by decide) (Or.inl rfl) l4
        refine rs_pure wi_135_53 rfl ?_
        refine rs_topi (v := 0) (by decide) ?_
        refine dl_ist wi_135_54 rfl (fun lv l6 t16 => ?_)
        have l0 := t16 _ _ (by decide) (Or.inl rfl) l0
        have l2 := t16 _ _ (by decide) (Or.inl rfl) l2
        have l3 := t16 _ _ (by decide) (Or.inl rfl) l3
        have l4 := t16 _ _ (by decide) (Or.inl rfl) l4
        have l5 := t16 _ _ (by decide) (Or.inl rfl) l5
        refine whl_ex (A := fun s17 : Int32 × cS => ∀ lv, rx_ld lv 0 = some (.ref 174) → rx_ld lv 2 = some (.int a2) → rx_ld lv 3 = some (.int v4) → rx_ld lv 4 = some (.int s11.1) → rx_ld lv 5 = some (.int v14) → rx_ld lv 6 = some (.int s17.1) → rs (rt_P sc fm) 135 F Lo 56 lv [] (hq false s17.2 y w) Q) (B := (fun x37 : cS => ∀ lv, rx_ld lv 0 = some (.ref 174) → rx_ld lv 2 = some (.int a2) → rx_ld lv 3 = some (.int v4) → rx_ld lv 4 = some (.int s11.1) → rx_ld lv 5 = some (.int v14) → rs (rt_P sc fm) 135 F Lo 164 lv [] (hq false x37 y w) Q)) ?_ ?_ _ _ (wp_bind h) _ l0 l2 l3 l4 l5 l6
        · intro s17 h lv l0 l2 l3 l4 l5 l6
          refine rs_ild wi_135_56 l6 ?_
          refine rs_aldn wi_135_58 l0 ?_
          refine dq_gi wi_135_59 wf_135_447 tf_174_15 ?_
          refine rs_icge (tg := 164) wi_135_62 ⟨by decide, by decide⟩ (fun q => ?_) (fun q => ?_)
          ·
            have h := wp_pos h q
            exact h _ l0 l2 l3 l4 l5
          ·
            have h := wp_neg h q
            refine rs_ildn wi_135_65 l2 ?_
            refine rs_ifeq (tg := 164) wi_135_66 ⟨by decide, by decide⟩ (fun q => ?_) (fun q => ?_)
            ·
              have h := wp_pos h q
              exact h _ l0 l2 l3 l4 l5
            ·
              have h := wp_neg h q
              refine rs_aldn wi_135_69 l0 ?_
              refine dq_gi wi_135_70 wf_135_894 tf_174_106 ?_
              refine rs_ifeq (tg := 164) wi_135_73 ⟨by decide, by decide⟩ (fun q => ?_) (fun q => ?_)
              ·
                have h := wp_pos h q
                exact h _ l0 l2 l3 l4 l5
              ·
                have h := wp_neg h q
                refine rs_pure wi_135_76 rfl ?_
                refine rs_topi (v := 0) (by decide) ?_
                refine dl_ist wi_135_77 rfl (fun lv l7 t18 => ?_)
                have l0 := t18 _ _ (by decide) (Or.inl rfl) l0
                have l2 := t18 _ _ (by decide) (Or.inl rfl) l2
                have l3 := t18 _ _ (by decide) (Or.inl rfl) l3
                have l4 := t18 _ _ (by decide) (Or.inl rfl) l4
                have l5 := t18 _ _ (by decide) (Or.inl rfl) l5
                have l6 := t18 _ _ (by decide) (Or.inl rfl) l6
                refine whl_ex (A := fun s19 : Int32 × cS => ∀ lv, rx_ld lv 0 = some (.ref 174) → rx_ld lv 2 = some (.int a2) → rx_ld lv 3 = some (.int v4) → rx_ld lv 4 = some (.int s11.1) → rx_ld lv 5 = some (.int v14) → rx_ld lv 6 = some (.int s17.1) → rx_ld lv 7 = some (.int s19.1) → rs (rt_P sc fm) 135 F Lo 79 lv [] (hq false s19.2 y w) Q) (B := (fun x33 : cS => ∀ lv, rx_ld lv 0 = some (.ref 174) → rx_ld lv 2 = some (.int a2) → rx_ld lv 3 = some (.int v4) → rx_ld lv 4 = some (.int s11.1) → rx_ld lv 5 = some (.int v14) → rx_ld lv 6 = some (.int s17.1) → rs (rt_P sc fm) 135 F Lo 158 lv [] (hq false x33 y w) Q)) ?_ ?_ _ _ (wp_bind h) _ l0 l2 l3 l4 l5 l6 l7
                · intro s19 h lv l0 l2 l3 l4 l5 l6 l7
                  refine rs_ild wi_135_79 l7 ?_
                  refine rs_pure wi_135_81 rfl ?_
                  refine rs_topi (v := 4) (by decide) ?_
                  refine rs_icge (tg := 158) wi_135_82 ⟨by decide, by decide⟩ (fun q => ?_) (fun q => ?_)
                  ·
                    have h := wp_pos h q
                    exact h _ l0 l2 l3 l4 l5 l6
                  ·
                    have h := wp_neg h q
                    refine rs_aldn wi_135_85 l0 ?_
                    refine dq_gr wi_135_86 wf_135_308 tf_174_107 ?_
                    refine rs_ild wi_135_89 l5 ?_
                    refine rs_ild wi_135_91 l6 ?_
                    refine rs_ild wi_135_93 l7 ?_
                    refine rs_S wi_135_95 wc_135_903 (Or.inl rfl) rfl (Nat.le_trans (by decide) hF) (ml_le wm_463 (Nat.le_trans (by decide) hLo)) rfl (sp_463 (Nat.le_trans (by decide : 0 ≤ 7 - 1) (Nat.sub_le_sub_right hF 1)) (ml_sub wm_463 (Nat.le_trans (by decide : 0 ≤ 154 - 22) (Nat.sub_le_sub_right hLo 22))) (wp_bind h) (fun v20 h => rs_back1 ?_))
                    obtain ⟨g21, h⟩ := wp_gd h
                    refine dq_iald wi_135_98 t_250 g21 ?_
                    refine wp_jn (B := fun p22 : cS => ∀ lv, rx_ld lv 0 = some (.ref 174) → rx_ld lv 2 = some (.int a2) → rx_ld lv 3 = some (.int v4) → rx_ld lv 4 = some (.int s11.1) → rx_ld lv 5 = some (.int v14) → rx_ld lv 6 = some (.int s17.1) → rx_ld lv 7 = some (.int s19.1) → rs (rt_P sc fm) 135 F Lo 152 lv [] (hq false p22 y w) Q) h (fun p22 h lv l0 l2 l3 l4 l5 l6 l7 => ?_) (fun j152 hj152 h => ?_)
                    ·
                      obtain ⟨v24, e25, h⟩ := wp_lt h
                      refine dl_inc wi_135_152 l7 rfl e25 (fun lv l7 t23 => ?_)
                      have l0 := t23 _ _ (by decide) (Or.inl rfl) l0
                      have l2 := t23 _ _ (by decide) (Or.inl rfl) l2
                      have l3 := t23 _ _ (by decide) (Or.inl rfl) l3
                      have l4 := t23 _ _ (by decide) (Or.inl rfl) l4
                      have l5 := t23 _ _ (by decide) (Or.inl rfl) l5
                      have l6 := t23 _ _ (by decide) (Or.inl rfl) l6
                      refine rs_goto (tg := 79) wi_135_155 ⟨by decide, by decide⟩ ?_
                      exact h _ l0 l2 l3 l4 l5 l6 l7
                    refine rs_ifge (tg := 105) wi_135_99 ⟨by decide, by decide⟩ (fun q => ?_) (fun q => ?_)
                    ·
                      have h := wp_pos h q
                      refine rs_aldn wi_135_105 l0 ?_
                      refine rs_ldcwS wi_135_106 wk_135_909 ?_
                      refine rs_V wi_135_109 wc_135_402 rfl (dq_isa tf_174_0 wa_15_362) (Nat.le_trans (by decide) hF) (ml_le wm_362 (Nat.le_trans (by decide) hLo)) rfl (sp_362 hw (Nat.le_trans (by decide : 4 ≤ 7 - 1) (Nat.sub_le_sub_right hF 1)) (ml_sub wm_362 (Nat.le_trans (by decide : 85 ≤ 154 - 22) (Nat.sub_le_sub_right hLo 22))) wsb_35 (wp_bind h) (fun r26 h => rs_back0 ?_))
                      refine rs_aldn wi_135_112 l0 ?_
                      refine rs_ild wi_135_113 l6 ?_
                      refine rs_aldn wi_135_115 l0 ?_
                      refine dq_gr wi_135_116 wf_135_308 tf_174_107 ?_
                      refine rs_ild wi_135_119 l5 ?_
                      refine rs_ild wi_135_121 l6 ?_
                      refine rs_ild wi_135_123 l7 ?_
                      refine rs_S wi_135_125 wc_135_903 (Or.inl rfl) rfl (Nat.le_trans (by decide) hF) (ml_le wm_463 (Nat.le_trans (by decide) hLo)) rfl (sp_463 (Nat.le_trans (by decide : 0 ≤ 7 - 1) (Nat.sub_le_sub_right hF 1)) (ml_sub wm_463 (Nat.le_trans (by decide : 0 ≤ 154 - 22) (Nat.sub_le_sub_right hLo 22))) (wp_bind h) (fun v27 h => rs_back1 ?_))
                      obtain ⟨g28, h⟩ := wp_gd h
                      refine dq_iald wi_135_128 t_250 g28 ?_
                      refine rs_V wi_135_129 wc_135_813 rfl (dq_isa tf_174_0 wa_15_448) (Nat.le_trans (by decide) hF) (ml_le wm_448 (Nat.le_trans (by decide) hLo)) rfl (sp_448 hw (Nat.le_trans (by decide : 5 ≤ 7 - 1) (Nat.sub_le_sub_right hF 1)) (ml_sub wm_448 (Nat.le_trans (by decide : 107 ≤ 154 - 22) (Nat.sub_le_sub_right hLo 22))) (wp_bind h) (fun r29 h => rs_back0 ?_))
                      refine rs_aldn wi_135_132 l0 ?_
                      refine rs_aldn wi_135_133 l0 ?_
                      refine rs_ild wi_135_134 l5 ?_
                      refine rs_ild wi_135_136 l7 ?_
                      refine rs_V wi_135_138 wc_135_865 rfl (dq_isa tf_174_0 wa_15_459) (Nat.le_trans (by decide) hF) (ml_le wm_459 (Nat.le_trans (by decide) hLo)) rfl (sp_459 hw (Nat.le_trans (by decide : 1 ≤ 7 - 1) (Nat.sub_le_sub_right hF 1)) (ml_sub wm_459 (Nat.le_trans (by decide : 21 ≤ 154 - 22) (Nat.sub_le_sub_right hLo 22))) (wp_bind h) (fun v30 h => rs_back1 ?_))
                      refine rs_pure wi_135_141 rfl ?_
                      refine rs_V wi_135_142 wc_135_406 rfl (dq_isa tf_174_0 wa_15_364) (Nat.le_trans (by decide) hF) (ml_le wm_364 (Nat.le_trans (by decide) hLo)) rfl (sp_364 hw (Nat.le_trans (by decide : 2 ≤ 7 - 1) (Nat.sub_le_sub_right hF 1)) (ml_sub wm_364 (Nat.le_trans (by decide : 45 ≤ 154 - 22) (Nat.sub_le_sub_right hLo 22))) (wp_bind h) (fun r31 h => rs_back0 ?_))
                      refine rs_aldn wi_135_145 l0 ?_
                      refine rs_ldcwS wi_135_146 wk_135_801 ?_
                      refine rs_V wi_135_149 wc_135_402 rfl (dq_isa tf_174_0 wa_15_362) (Nat.le_trans (by decide) hF) (ml_le wm_362 (Nat.le_trans (by decide) hLo)) rfl (sp_362 hw (Nat.le_trans (by decide : 4 ≤ 7 - 1) (Nat.sub_le_sub_right hF 1)) (ml_sub wm_362 (Nat.le_trans (by decide : 85 ≤ 154 - 22) (Nat.sub_le_sub_right hLo 22))) wsb_34 (wp_bind h) (fun r32 h => rs_back0 ?_))
                      exact hj152 _ h _ l0 l2 l3 l4 l5 l6 l7
                    ·
                      have h := wp_neg h q
                      refine rs_goto (tg := 152) wi_135_102 ⟨by decide, by decide⟩ ?_
                      exact hj152 _ h _ l0 l2 l3 l4 l5 l6 l7
                ·
                  intro x33 h lv l0 l2 l3 l4 l5 l6
                  obtain ⟨v35, e36, h⟩ := wp_lt h
                  refine dl_inc wi_135_158 l6 rfl e36 (fun lv l6 t34 => ?_)
                  have l0 := t34 _ _ (by decide) (Or.inl rfl) l0
                  have l2 := t34 _ _ (by decide) (Or.inl rfl) l2
                  have l3 := t34 _ _ (by decide) (Or.inl rfl) l3
                  have l4 := t34 _ _ (by decide) (Or.inl rfl) l4
                  have l5 := t34 _ _ (by decide) (Or.inl rfl) l5
                  refine rs_goto (tg := 56) wi_135_161 ⟨by decide, by decide⟩ ?_
                  exact h _ l0 l2 l3 l4 l5 l6
        ·
          intro x37 h lv l0 l2 l3 l4 l5
          refine rs_aldn wi_135_164 l0 ?_
          refine rs_ildn wi_135_165 l3 ?_
          refine rs_ild wi_135_166 l5 ?_
          refine rs_pure wi_135_168 rfl ?_
          refine rs_topi (v := 1) (by decide) ?_
          refine rs_ildn wi_135_169 l2 ?_
          refine rs_V wi_135_170 wc_135_808 rfl (dq_isa tf_174_0 wa_15_447) (Nat.le_trans (by decide) hF) (ml_le wm_447 (Nat.le_trans (by decide) hLo)) rfl (sp_447 hw (Nat.le_trans (by decide : 6 ≤ 7 - 1) (Nat.sub_le_sub_right hF 1)) (ml_sub wm_447 (Nat.le_trans (by decide : 129 ≤ 154 - 25) (Nat.sub_le_sub_right hLo 25))) (wp_bind h) (fun r38 h => rs_back0 ?_))
          refine rs_aldn wi_135_173 l0 ?_
          refine rs_ldcwS wi_135_174 wk_135_801 ?_
          refine rs_V wi_135_177 wc_135_402 rfl (dq_isa tf_174_0 wa_15_362) (Nat.le_trans (by decide) hF) (ml_le wm_362 (Nat.le_trans (by decide) hLo)) rfl (sp_362 hw (Nat.le_trans (by decide : 4 ≤ 7 - 1) (Nat.sub_le_sub_right hF 1)) (ml_sub wm_362 (Nat.le_trans (by decide : 85 ≤ 154 - 22) (Nat.sub_le_sub_right hLo 22))) wsb_34 (wp_bind h) (fun r39 h => rs_back0 ?_))
          obtain ⟨v41, e42, h⟩ := wp_lt h
          refine dl_inc wi_135_180 l4 rfl e42 (fun lv l4 t40 => ?_)
          have l0 := t40 _ _ (by decide) (Or.inl rfl) l0
          have l2 := t40 _ _ (by decide) (Or.inl rfl) l2
          have l3 := t40 _ _ (by decide) (Or.inl rfl) l3
          refine rs_goto (tg := 33) wi_135_183 ⟨by decide, by decide⟩ ?_
          exact h _ l0 l2 l3 l4
    ·
      intro x43 h lv l0
      refine rs_aldn wi_135_186 l0 ?_
      refine dq_gi wi_135_187 wf_135_366 tf_174_4 ?_
      exact rs_iret wi_135_190 wr_135 rfl (hQ ((x43.1 174 4), x43) h)
  ·
    have h := wp_pos h q
    refine rs_pure wi_135_13 rfl ?_
    refine rs_topi (v := (-1)) (by decide) ?_
    exact rs_iret wi_135_14 wr_135 rfl (hQ ((-1), c1) h)
theorem t_251 : ta false 251 0 4 := ⟨rfl, by decide, by decide⟩
theorem tf_174_108 : fo false 174 15 108 (.ref 251) := ⟨_, rfl, rfl, by decide, by decide⟩
set_option maxRecDepth 100000 in
theorem wf_136_311 : rx_ft (rt_P sc fm) 136 311 = some (15, 108) := (by decide +kernel : rt_ft 136 311 = some (15, 108))
theorem wi_136_0 : ri (rt_P sc fm) 136 0 (.aload_n 0) (1) := ri_of (by decide +kernel) rfl
theorem wi_136_1 : ri (rt_P sc fm) 136 1 (.iconst 0) (2) := ri_of (by decide +kernel) rfl
theorem wi_136_10 : ri (rt_P sc fm) 136 10 (.iconst 3) (11) := ri_of (by decide +kernel) rfl
theorem wi_136_11 : ri (rt_P sc fm) 136 11 (.if_icmp .le 5) (14) := ri_of (by decide +kernel) rfl
theorem wi_136_14 : ri (rt_P sc fm) 136 14 (.iconst 0) (15) := ri_of (by decide +kernel) rfl
theorem wi_136_15 : ri (rt_P sc fm) 136 15 (.ireturn) (16) := ri_of (by decide +kernel) rfl
theorem wi_136_16 : ri (rt_P sc fm) 136 16 (.aload_n 0) (17) := ri_of (by decide +kernel) rfl
theorem wi_136_17 : ri (rt_P sc fm) 136 17 (.getfield 311) (20) := ri_of (by decide +kernel) rfl
theorem wi_136_2 : ri (rt_P sc fm) 136 2 (.putfield 356) (5) := ri_of (by decide +kernel) rfl
theorem wi_136_20 : ri (rt_P sc fm) 136 20 (.iload_n 1) (21) := ri_of (by decide +kernel) rfl
theorem wi_136_21 : ri (rt_P sc fm) 136 21 (.iload_n 2) (22) := ri_of (by decide +kernel) rfl
theorem wi_136_22 : ri (rt_P sc fm) 136 22 (.iastore) (23) := ri_of (by decide +kernel) rfl
theorem wi_136_23 : ri (rt_P sc fm) 136 23 (.iconst 1) (24) := ri_of (by decide +kernel) rfl
theorem wi_136_24 : ri (rt_P sc fm) 136 24 (.ireturn) (25) := ri_of (by decide +kernel) rfl
theorem wi_136_5 : ri (rt_P sc fm) 136 5 (.iload_n 1) (6) := ri_of (by decide +kernel) rfl
theorem wi_136_6 : ri (rt_P sc fm) 136 6 (.ifCond .lt 8) (9) := ri_of (by decide +kernel) rfl
theorem wi_136_9 : ri (rt_P sc fm) 136 9 (.iload_n 1) (10) := ri_of (by decide +kernel) rfl
set_option maxRecDepth 100000 in
theorem wp_136_356 : rx_pt (rt_P sc fm) 136 356 = some (15, 0, .int) := (by decide +kernel : rt_pt 136 356 = some (15, 0, .int))
set_option maxRecDepth 100000 in
theorem wr_136 : rx_rt (rt_P sc fm) 136 = (some FieldType.boolean) := (by decide +kernel : rt_rt 136 = (some FieldType.boolean))
/-- MarkHouseModel.argument(II)Z -/
def d_136 (n : Nat) (a1 : Int32) (a2 : Int32) (c : cS) : Option (Int32 × cS) :=
  lt (pI c 174 0 0) (fun c1 =>
  jn (fun p3 : Unit =>
    some (0, c1))
  (fun j14 =>
  if a1 < 0 then
    j14 ()
  else
    if a1 ≤ 3 then
      if ib a1 4 then
      lt (pI c1 251 (ix a1) a2) (fun c5 =>
      some (1, c5))
      else none
    else
      j14 ()))
set_option maxRecDepth 100000 in
set_option maxHeartbeats 4000000 in
theorem sp_136 {F Lo n : Nat} {a1 : Int32} {a2 : Int32} {c y : cS} {w : cW} {K : Int32 × cS → Prop} {Q : ((Option Value) ⊕ String) → List va_E → Prop} (hw : rOK fm w) (hF : 0 ≤ F) (hLo : 0 ≤ Lo)  (h : wp (d_136 n a1 a2 c) K) (hQ : ∀ r, K r → Q (.inl (some (.int r.1))) (hq false r.2 y w)) : rs (rt_P sc fm) 136 F Lo 0 [(0, .ref 174), (1, .int a1), (2, .int a2)] [] (hq false c y w) Q := by
  unfold d_136 at h
  obtain ⟨lv, elv⟩ : ∃ lv : rx_L, lv = [(0, .ref 174), (1, .int a1), (2, .int a2)] := ⟨_, rfl⟩
  rw [← elv]
  have l0 : rx_ld lv 0 = some (.ref 174) := by rw [elv]; rfl
  have l1 : rx_ld lv 1 = some (.int a1) := by rw [elv]; rfl
  have l2 : rx_ld lv 2 = some (.int a2) := by rw [elv]; rfl
  refine rs_aldn wi_136_0 l0 ?_
  refine rs_pure wi_136_1 rfl ?_
  refine rs_topi (v := 0) (by decide) ?_
  obtain ⟨c1, e2, h⟩ := wp_lt h
  refine dq_pi wi_136_2 wp_136_356 tf_174_0 rfl rfl e2 ?_
  refine rs_ildn wi_136_5 l1 ?_
  refine wp_jn (B := fun p3 : Unit => ∀ lv, rs (rt_P sc fm) 136 F Lo 14 lv [] (hq false c1 y w) Q) h (fun p3 h lv => ?_) (fun j14 hj14 h => ?_)
  ·
    refine rs_pure wi_136_14 rfl ?_
    refine rs_topi (v := 0) (by decide) ?_
    exact rs_iret wi_136_15 wr_136 (nb_n (by decide)) (hQ (0, c1) h)
  refine rs_iflt (tg := 14) wi_136_6 ⟨by decide, by decide⟩ (fun q => ?_) (fun q => ?_)
  ·
    have h := wp_pos h q
    exact hj14 _ h _
  ·
    have h := wp_neg h q
    refine rs_ildn wi_136_9 l1 ?_
    refine rs_pure wi_136_10 rfl ?_
    refine rs_topi (v := 3) (by decide) ?_
    refine rs_icle (tg := 16) wi_136_11 ⟨by decide, by decide⟩ (fun q => ?_) (fun q => ?_)
    ·
      have h := wp_pos h q
      refine rs_aldn wi_136_16 l0 ?_
      refine dq_gr wi_136_17 wf_136_311 tf_174_108 ?_
      refine rs_ildn wi_136_20 l1 ?_
      refine rs_ildn wi_136_21 l2 ?_
      obtain ⟨g4, h⟩ := wp_gd h
      obtain ⟨c5, e6, h⟩ := wp_lt h
      refine dq_iast wi_136_22 t_251 g4 e6 ?_
      refine rs_pure wi_136_23 rfl ?_
      refine rs_topi (v := 1) (by decide) ?_
      exact rs_iret wi_136_24 wr_136 (nb_n (by decide)) (hQ (1, c5) h)
    ·
      have h := wp_neg h q
      exact hj14 _ h _
theorem t_252 : ta false 252 0 64 := ⟨rfl, by decide, by decide⟩
theorem tf_174_109 : fo false 174 15 109 (.ref 252) := ⟨_, rfl, rfl, by decide, by decide⟩
theorem tf_174_110 : fo false 174 15 110 (.int 0) := ⟨_, rfl, rfl, by decide, by decide⟩
set_option maxRecDepth 100000 in
theorem wf_137_314 : rx_ft (rt_P sc fm) 137 314 = some (15, 109) := (by decide +kernel : rt_ft 137 314 = some (15, 109))
set_option maxRecDepth 100000 in
theorem wf_137_910 : rx_ft (rt_P sc fm) 137 910 = some (15, 110) := (by decide +kernel : rt_ft 137 910 = some (15, 110))
theorem wi_137_0 : ri (rt_P sc fm) 137 0 (.aload_n 0) (1) := ri_of (by decide +kernel) rfl
theorem wi_137_1 : ri (rt_P sc fm) 137 1 (.iconst 0) (2) := ri_of (by decide +kernel) rfl
theorem wi_137_11 : ri (rt_P sc fm) 137 11 (.if_icmp .ne 5) (14) := ri_of (by decide +kernel) rfl
theorem wi_137_14 : ri (rt_P sc fm) 137 14 (.iconst (-1)) (15) := ri_of (by decide +kernel) rfl
theorem wi_137_15 : ri (rt_P sc fm) 137 15 (.ireturn) (16) := ri_of (by decide +kernel) rfl
theorem wi_137_16 : ri (rt_P sc fm) 137 16 (.aload_n 0) (17) := ri_of (by decide +kernel) rfl
theorem wi_137_17 : ri (rt_P sc fm) 137 17 (.getfield 314) (20) := ri_of (by decide +kernel) rfl
theorem wi_137_2 : ri (rt_P sc fm) 137 2 (.putfield 356) (5) := ri_of (by decide +kernel) rfl
theorem wi_137_20 : ri (rt_P sc fm) 137 20 (.aload_n 0) (21) := ri_of (by decide +kernel) rfl
theorem wi_137_21 : ri (rt_P sc fm) 137 21 (.getfield 910) (24) := ri_of (by decide +kernel) rfl
theorem wi_137_24 : ri (rt_P sc fm) 137 24 (.iload_n 1) (25) := ri_of (by decide +kernel) rfl
theorem wi_137_25 : ri (rt_P sc fm) 137 25 (.iastore) (26) := ri_of (by decide +kernel) rfl
theorem wi_137_26 : ri (rt_P sc fm) 137 26 (.aload_n 0) (27) := ri_of (by decide +kernel) rfl
theorem wi_137_27 : ri (rt_P sc fm) 137 27 (.dup) (28) := ri_of (by decide +kernel) rfl
theorem wi_137_28 : ri (rt_P sc fm) 137 28 (.getfield 910) (31) := ri_of (by decide +kernel) rfl
theorem wi_137_31 : ri (rt_P sc fm) 137 31 (.iconst 1) (32) := ri_of (by decide +kernel) rfl
theorem wi_137_32 : ri (rt_P sc fm) 137 32 (.iadd) (33) := ri_of (by decide +kernel) rfl
theorem wi_137_33 : ri (rt_P sc fm) 137 33 (.putfield 910) (36) := ri_of (by decide +kernel) rfl
theorem wi_137_36 : ri (rt_P sc fm) 137 36 (.aload_n 0) (37) := ri_of (by decide +kernel) rfl
theorem wi_137_37 : ri (rt_P sc fm) 137 37 (.getfield 910) (40) := ri_of (by decide +kernel) rfl
theorem wi_137_40 : ri (rt_P sc fm) 137 40 (.ireturn) (41) := ri_of (by decide +kernel) rfl
theorem wi_137_5 : ri (rt_P sc fm) 137 5 (.aload_n 0) (6) := ri_of (by decide +kernel) rfl
theorem wi_137_6 : ri (rt_P sc fm) 137 6 (.getfield 910) (9) := ri_of (by decide +kernel) rfl
theorem wi_137_9 : ri (rt_P sc fm) 137 9 (.bipush 64) (11) := ri_of (by decide +kernel) rfl
set_option maxRecDepth 100000 in
theorem wp_137_356 : rx_pt (rt_P sc fm) 137 356 = some (15, 0, .int) := (by decide +kernel : rt_pt 137 356 = some (15, 0, .int))
set_option maxRecDepth 100000 in
theorem wp_137_910 : rx_pt (rt_P sc fm) 137 910 = some (15, 110, .int) := (by decide +kernel : rt_pt 137 910 = some (15, 110, .int))
set_option maxRecDepth 100000 in
theorem wr_137 : rx_rt (rt_P sc fm) 137 = (some FieldType.int) := (by decide +kernel : rt_rt 137 = (some FieldType.int))
/-- MarkHouseModel.input(I)I -/
def d_137 (n : Nat) (a1 : Int32) (c : cS) : Option (Int32 × cS) :=
  lt (pI c 174 0 0) (fun c1 =>
  if (c1.1 174 110) = 64 then
    some ((-1), c1)
  else
    if ib (c1.1 174 110) 64 then
    lt (pI c1 252 (ix (c1.1 174 110)) a1) (fun c4 =>
    lt (pI c4 174 110 ((c4.1 174 110) + 1)) (fun c6 =>
    some ((c6.1 174 110), c6)))
    else none)
set_option maxRecDepth 100000 in
set_option maxHeartbeats 4000000 in
theorem sp_137 {F Lo n : Nat} {a1 : Int32} {c y : cS} {w : cW} {K : Int32 × cS → Prop} {Q : ((Option Value) ⊕ String) → List va_E → Prop} (hw : rOK fm w) (hF : 0 ≤ F) (hLo : 0 ≤ Lo)  (h : wp (d_137 n a1 c) K) (hQ : ∀ r, K r → Q (.inl (some (.int r.1))) (hq false r.2 y w)) : rs (rt_P sc fm) 137 F Lo 0 [(0, .ref 174), (1, .int a1)] [] (hq false c y w) Q := by
  unfold d_137 at h
  obtain ⟨lv, elv⟩ : ∃ lv : rx_L, lv = [(0, .ref 174), (1, .int a1)] := ⟨_, rfl⟩
  rw [← elv]
  have l0 : rx_ld lv 0 = some (.ref 174) := by rw [elv]; rfl
  have l1 : rx_ld lv 1 = some (.int a1) := by rw [elv]; rfl
  refine rs_aldn wi_137_0 l0 ?_
  refine rs_pure wi_137_1 rfl ?_
  refine rs_topi (v := 0) (by decide) ?_
  obtain ⟨c1, e2, h⟩ := wp_lt h
  refine dq_pi wi_137_2 wp_137_356 tf_174_0 rfl rfl e2 ?_
  refine rs_aldn wi_137_5 l0 ?_
  refine dq_gi wi_137_6 wf_137_910 tf_174_110 ?_
  refine rs_pure wi_137_9 rfl ?_
  refine rs_topi (v := 64) (by decide) ?_
  refine rs_icne (tg := 16) wi_137_11 ⟨by decide, by decide⟩ (fun q => ?_) (fun q => ?_)
  ·
    have h := wp_neg h q
    refine rs_aldn wi_137_16 l0 ?_
    refine dq_gr wi_137_17 wf_137_314 tf_174_109 ?_
    refine rs_aldn wi_137_20 l0 ?_
    refine dq_gi wi_137_21 wf_137_910 tf_174_110 ?_
    refine rs_ildn wi_137_24 l1 ?_
    obtain ⟨g3, h⟩ := wp_gd h
    obtain ⟨c4, e5, h⟩ := wp_lt h
    refine dq_iast wi_137_25 t_252 g3 e5 ?_
    refine rs_aldn wi_137_26 l0 ?_
    refine rs_pure wi_137_27 rfl ?_
    refine dq_gi wi_137_28 wf_137_910 tf_174_110 ?_
    refine rs_pure wi_137_31 rfl ?_
    refine rs_topi (v := 1) (by decide) ?_
    refine rs_pure wi_137_32 rfl ?_
    obtain ⟨c6, e7, h⟩ := wp_lt h
    refine dq_pi wi_137_33 wp_137_910 tf_174_110 rfl rfl e7 ?_
    refine rs_aldn wi_137_36 l0 ?_
    refine dq_gi wi_137_37 wf_137_910 tf_174_110 ?_
    exact rs_iret wi_137_40 wr_137 rfl (hQ ((c6.1 174 110), c6) h)
  ·
    have h := wp_pos h q
    refine rs_pure wi_137_14 rfl ?_
    refine rs_topi (v := (-1)) (by decide) ?_
    exact rs_iret wi_137_15 wr_137 rfl (hQ ((-1), c1) h)
theorem t_256 : ta false 256 0 192 := ⟨rfl, by decide, by decide⟩
theorem t_257 : ta false 257 0 768 := ⟨rfl, by decide, by decide⟩
theorem tf_174_117 : fo false 174 15 117 (.ref 256) := ⟨_, rfl, rfl, by decide, by decide⟩
theorem tf_174_118 : fo false 174 15 118 (.ref 257) := ⟨_, rfl, rfl, by decide, by decide⟩
set_option maxRecDepth 100000 in
theorem wf_138_116 : rx_ft (rt_P sc fm) 138 116 = some (15, 23) := (by decide +kernel : rt_ft 138 116 = some (15, 23))
set_option maxRecDepth 100000 in
theorem wf_138_326 : rx_ft (rt_P sc fm) 138 326 = some (15, 117) := (by decide +kernel : rt_ft 138 326 = some (15, 117))
set_option maxRecDepth 100000 in
theorem wf_138_329 : rx_ft (rt_P sc fm) 138 329 = some (15, 118) := (by decide +kernel : rt_ft 138 329 = some (15, 118))
set_option maxRecDepth 100000 in
theorem wf_138_447 : rx_ft (rt_P sc fm) 138 447 = some (15, 15) := (by decide +kernel : rt_ft 138 447 = some (15, 15))
theorem wi_138_0 : ri (rt_P sc fm) 138 0 (.aload_n 0) (1) := ri_of (by decide +kernel) rfl
theorem wi_138_1 : ri (rt_P sc fm) 138 1 (.getfield 326) (4) := ri_of (by decide +kernel) rfl
theorem wi_138_10 : ri (rt_P sc fm) 138 10 (.aload_n 0) (11) := ri_of (by decide +kernel) rfl
theorem wi_138_11 : ri (rt_P sc fm) 138 11 (.getfield 447) (14) := ri_of (by decide +kernel) rfl
theorem wi_138_14 : ri (rt_P sc fm) 138 14 (.if_icmp .ge 25) (17) := ri_of (by decide +kernel) rfl
theorem wi_138_17 : ri (rt_P sc fm) 138 17 (.aload_n 0) (18) := ri_of (by decide +kernel) rfl
theorem wi_138_18 : ri (rt_P sc fm) 138 18 (.getfield 329) (21) := ri_of (by decide +kernel) rfl
theorem wi_138_21 : ri (rt_P sc fm) 138 21 (.iconst 4) (22) := ri_of (by decide +kernel) rfl
theorem wi_138_22 : ri (rt_P sc fm) 138 22 (.iload_n 1) (23) := ri_of (by decide +kernel) rfl
theorem wi_138_23 : ri (rt_P sc fm) 138 23 (.imul) (24) := ri_of (by decide +kernel) rfl
theorem wi_138_24 : ri (rt_P sc fm) 138 24 (.iload_n 3) (25) := ri_of (by decide +kernel) rfl
theorem wi_138_25 : ri (rt_P sc fm) 138 25 (.iadd) (26) := ri_of (by decide +kernel) rfl
theorem wi_138_26 : ri (rt_P sc fm) 138 26 (.aload_n 0) (27) := ri_of (by decide +kernel) rfl
theorem wi_138_27 : ri (rt_P sc fm) 138 27 (.getfield 116) (30) := ri_of (by decide +kernel) rfl
theorem wi_138_30 : ri (rt_P sc fm) 138 30 (.iload_n 3) (31) := ri_of (by decide +kernel) rfl
theorem wi_138_31 : ri (rt_P sc fm) 138 31 (.iaload) (32) := ri_of (by decide +kernel) rfl
theorem wi_138_32 : ri (rt_P sc fm) 138 32 (.iastore) (33) := ri_of (by decide +kernel) rfl
theorem wi_138_33 : ri (rt_P sc fm) 138 33 (.iinc 3 1) (36) := ri_of (by decide +kernel) rfl
theorem wi_138_36 : ri (rt_P sc fm) 138 36 (.goto (-27)) (39) := ri_of (by decide +kernel) rfl
theorem wi_138_39 : ri (rt_P sc fm) 138 39 (.return_) (40) := ri_of (by decide +kernel) rfl
theorem wi_138_4 : ri (rt_P sc fm) 138 4 (.iload_n 1) (5) := ri_of (by decide +kernel) rfl
theorem wi_138_5 : ri (rt_P sc fm) 138 5 (.iload_n 2) (6) := ri_of (by decide +kernel) rfl
theorem wi_138_6 : ri (rt_P sc fm) 138 6 (.iastore) (7) := ri_of (by decide +kernel) rfl
theorem wi_138_7 : ri (rt_P sc fm) 138 7 (.iconst 0) (8) := ri_of (by decide +kernel) rfl
theorem wi_138_8 : ri (rt_P sc fm) 138 8 (.istore_n 3) (9) := ri_of (by decide +kernel) rfl
theorem wi_138_9 : ri (rt_P sc fm) 138 9 (.iload_n 3) (10) := ri_of (by decide +kernel) rfl
set_option maxRecDepth 100000 in
theorem wr_138 : rx_rt (rt_P sc fm) 138 = none := (by decide +kernel : rt_rt 138 = none)
/-- MarkHouseModel.plain(II)V -/
def d_138 (n : Nat) (a1 : Int32) (a2 : Int32) (c : cS) : Option (cS) :=
  if ib a1 192 then
  lt (pI c 256 (ix a1) a2) (fun c2 =>
  Option.bind (whl (R := (cS)) (fun s5 : Int32 × cS =>
    if (s5.2.1 174 15) ≤ s5.1 then
      some (.inr s5.2)
    else
      if ib s5.1 4 then
      if ib ((4 * a1) + s5.1) 768 then
      lt (pI s5.2 257 (ix ((4 * a1) + s5.1)) (s5.2.1 188 (ix s5.1))) (fun c8 =>
      lt (s5.1 + 1 : Int32) (fun v11 =>
      some (.inl (v11, c8))))
      else none
      else none) n (0, c2))
  (fun x13 : cS =>
    some x13))
  else none
set_option maxRecDepth 100000 in
set_option maxHeartbeats 4000000 in
theorem sp_138 {F Lo n : Nat} {a1 : Int32} {a2 : Int32} {c y : cS} {w : cW} {K : cS → Prop} {Q : ((Option Value) ⊕ String) → List va_E → Prop} (hw : rOK fm w) (hF : 0 ≤ F) (hLo : 0 ≤ Lo)  (h : wp (d_138 n a1 a2 c) K) (hQ : ∀ r, K r → Q (.inl none) (hq false r y w)) : rs (rt_P sc fm) 138 F Lo 0 [(0, .ref 174), (1, .int a1), (2, .int a2)] [] (hq false c y w) Q := by
  unfold d_138 at h
  obtain ⟨lv, elv⟩ : ∃ lv : rx_L, lv = [(0, .ref 174), (1, .int a1), (2, .int a2)] := ⟨_, rfl⟩
  rw [← elv]
  have l0 : rx_ld lv 0 = some (.ref 174) := by rw [elv]; rfl
  have l1 : rx_ld lv 1 = some (.int a1) := by rw [elv]; rfl
  have l2 : rx_ld lv 2 = some (.int a2) := by rw [elv]; rfl
  refine rs_aldn wi_138_0 l0 ?_
  refine dq_gr wi_138_1 wf_138_326 tf_174_117 ?_
  refine rs_ildn wi_138_4 l1 ?_
  refine rs_ildn wi_138_5 l2 ?_
  obtain ⟨g1, h⟩ := wp_gd h
  obtain ⟨c2, e3, h⟩ := wp_lt h
  refine dq_iast wi_138_6 t_256 g1 e3 ?_
  refine rs_pure wi_138_7 rfl ?_
  refine rs_topi (v := 0) (by decide) ?_
  refine dl_istn wi_138_8 rfl (fun lv l3 t4 => ?_)
  have l0 := t4 _ _ (by decide) (Or.inl rfl) l0
  have l1 := t4 _ _ (by decide) (Or.inl rfl) l1
  refine whl_ex (A := fun s5 : Int32 × cS => ∀ lv, rx_ld lv 0 = some (.ref 174) → rx_ld lv 1 = some (.int a1) → rx_ld lv 3 = some (.int s5.1) → rs (rt_P sc fm) 138 F Lo 9 lv [] (hq false s5.2 y w) Q) (B := (fun x13 : cS => ∀ lv, rs (rt_P sc fm) 138 F Lo 39 lv [] (hq false x13 y w) Q)) ?_ ?_ _ _ (wp_bind h) _ l0 l1 l3
  · intro s5 h lv l0 l1 l3
    refine rs_ildn wi_138_9 l3 ?_
    refine rs_aldn wi_138_10 l0 ?_
    refine dq_gi wi_138_11 wf_138_447 tf_174_15 ?_
    refine rs_icge (tg := 39) wi_138_14 ⟨by decide, by decide⟩ (fun q => ?_) (fun q => ?_)
    ·
      have h := wp_pos h q
      exact h _
    ·
      have h := wp_neg h q
      refine rs_aldn wi_138_17 l0 ?_
      refine dq_gr wi_138_18 wf_138_329 tf_174_118 ?_
      refine rs_pure wi_138_21 rfl ?_
      refine rs_topi (v := 4) (by decide) ?_
      refine rs_ildn wi_138_22 l1 ?_
      refine rs_pure wi_138_23 rfl ?_
      refine rs_ildn wi_138_24 l3 ?_
      refine rs_pure wi_138_25 rfl ?_
      refine rs_aldn wi_138_26 l0 ?_
      refine dq_gr wi_138_27 wf_138_116 tf_174_23 ?_
      refine rs_ildn wi_138_30 l3 ?_
      obtain ⟨g6, h⟩ := wp_gd h
      refine dq_iald wi_138_31 t_188 g6 ?_
      obtain ⟨g7, h⟩ := wp_gd h
      obtain ⟨c8, e9, h⟩ := wp_lt h
      refine dq_iast wi_138_32 t_257 g7 e9 ?_
      obtain ⟨v11, e12, h⟩ := wp_lt h
      refine dl_inc wi_138_33 l3 rfl e12 (fun lv l3 t10 => ?_)
      have l0 := t10 _ _ (by decide) (Or.inl rfl) l0
      have l1 := t10 _ _ (by decide) (Or.inl rfl) l1
      refine rs_goto (tg := 9) wi_138_36 ⟨by decide, by decide⟩ ?_
      exact h _ l0 l1 l3
  ·
    intro x13 h lv
    exact rs_vret wi_138_39 wr_138 (hQ x13 h)
theorem t_253 : ta false 253 0 12 := ⟨rfl, by decide, by decide⟩
theorem t_254 : ta false 254 0 12 := ⟨rfl, by decide, by decide⟩
theorem t_255 : ta false 255 0 12 := ⟨rfl, by decide, by decide⟩
theorem tf_174_113 : fo false 174 15 113 (.int 0) := ⟨_, rfl, rfl, by decide, by decide⟩
theorem tf_174_114 : fo false 174 15 114 (.ref 253) := ⟨_, rfl, rfl, by decide, by decide⟩
theorem tf_174_115 : fo false 174 15 115 (.ref 254) := ⟨_, rfl, rfl, by decide, by decide⟩
theorem tf_174_116 : fo false 174 15 116 (.ref 255) := ⟨_, rfl, rfl, by decide, by decide⟩
set_option maxRecDepth 100000 in
theorem wa_15_138 : rz_cn 15 (rx_yn (rt_P sc fm) 138).cls = true := (by decide +kernel : rz_cn 15 (rt_yn 138).cls = true)
set_option maxRecDepth 100000 in
theorem wc_466_916 : rx_ct (rt_P sc fm) 466 916 = some (0, 138, 2) := (by decide +kernel : rt_ct 466 916 = some (0, 138, 2))
set_option maxRecDepth 100000 in
theorem wf_466_317 : rx_ft (rt_P sc fm) 466 317 = some (15, 114) := (by decide +kernel : rt_ft 466 317 = some (15, 114))
set_option maxRecDepth 100000 in
theorem wf_466_320 : rx_ft (rt_P sc fm) 466 320 = some (15, 115) := (by decide +kernel : rt_ft 466 320 = some (15, 115))
set_option maxRecDepth 100000 in
theorem wf_466_323 : rx_ft (rt_P sc fm) 466 323 = some (15, 116) := (by decide +kernel : rt_ft 466 323 = some (15, 116))
set_option maxRecDepth 100000 in
theorem wf_466_913 : rx_ft (rt_P sc fm) 466 913 = some (15, 113) := (by decide +kernel : rt_ft 466 913 = some (15, 113))
theorem wi_466_0 : ri (rt_P sc fm) 466 0 (.aload_n 0) (1) := ri_of (by decide +kernel) rfl
theorem wi_466_1 : ri (rt_P sc fm) 466 1 (.getfield 913) (4) := ri_of (by decide +kernel) rfl
theorem wi_466_10 : ri (rt_P sc fm) 466 10 (.iconst 1) (11) := ri_of (by decide +kernel) rfl
theorem wi_466_11 : ri (rt_P sc fm) 466 11 (.iadd) (12) := ri_of (by decide +kernel) rfl
theorem wi_466_12 : ri (rt_P sc fm) 466 12 (.putfield 913) (15) := ri_of (by decide +kernel) rfl
theorem wi_466_15 : ri (rt_P sc fm) 466 15 (.aload_n 0) (16) := ri_of (by decide +kernel) rfl
theorem wi_466_16 : ri (rt_P sc fm) 466 16 (.getfield 317) (19) := ri_of (by decide +kernel) rfl
theorem wi_466_19 : ri (rt_P sc fm) 466 19 (.iload_n 2) (20) := ri_of (by decide +kernel) rfl
theorem wi_466_20 : ri (rt_P sc fm) 466 20 (.iload_n 1) (21) := ri_of (by decide +kernel) rfl
theorem wi_466_21 : ri (rt_P sc fm) 466 21 (.iastore) (22) := ri_of (by decide +kernel) rfl
theorem wi_466_22 : ri (rt_P sc fm) 466 22 (.aload_n 0) (23) := ri_of (by decide +kernel) rfl
theorem wi_466_23 : ri (rt_P sc fm) 466 23 (.getfield 320) (26) := ri_of (by decide +kernel) rfl
theorem wi_466_26 : ri (rt_P sc fm) 466 26 (.iload_n 2) (27) := ri_of (by decide +kernel) rfl
theorem wi_466_27 : ri (rt_P sc fm) 466 27 (.iconst 0) (28) := ri_of (by decide +kernel) rfl
theorem wi_466_28 : ri (rt_P sc fm) 466 28 (.iastore) (29) := ri_of (by decide +kernel) rfl
theorem wi_466_29 : ri (rt_P sc fm) 466 29 (.aload_n 0) (30) := ri_of (by decide +kernel) rfl
theorem wi_466_30 : ri (rt_P sc fm) 466 30 (.getfield 323) (33) := ri_of (by decide +kernel) rfl
theorem wi_466_33 : ri (rt_P sc fm) 466 33 (.iload_n 2) (34) := ri_of (by decide +kernel) rfl
theorem wi_466_34 : ri (rt_P sc fm) 466 34 (.bipush 8) (36) := ri_of (by decide +kernel) rfl
theorem wi_466_36 : ri (rt_P sc fm) 466 36 (.iastore) (37) := ri_of (by decide +kernel) rfl
theorem wi_466_37 : ri (rt_P sc fm) 466 37 (.iconst 0) (38) := ri_of (by decide +kernel) rfl
theorem wi_466_38 : ri (rt_P sc fm) 466 38 (.istore_n 3) (39) := ri_of (by decide +kernel) rfl
theorem wi_466_39 : ri (rt_P sc fm) 466 39 (.iload_n 3) (40) := ri_of (by decide +kernel) rfl
theorem wi_466_4 : ri (rt_P sc fm) 466 4 (.istore_n 2) (5) := ri_of (by decide +kernel) rfl
theorem wi_466_40 : ri (rt_P sc fm) 466 40 (.bipush 16) (42) := ri_of (by decide +kernel) rfl
theorem wi_466_42 : ri (rt_P sc fm) 466 42 (.if_icmp .ge 20) (45) := ri_of (by decide +kernel) rfl
theorem wi_466_45 : ri (rt_P sc fm) 466 45 (.aload_n 0) (46) := ri_of (by decide +kernel) rfl
theorem wi_466_46 : ri (rt_P sc fm) 466 46 (.bipush 16) (48) := ri_of (by decide +kernel) rfl
theorem wi_466_48 : ri (rt_P sc fm) 466 48 (.iload_n 2) (49) := ri_of (by decide +kernel) rfl
theorem wi_466_49 : ri (rt_P sc fm) 466 49 (.imul) (50) := ri_of (by decide +kernel) rfl
theorem wi_466_5 : ri (rt_P sc fm) 466 5 (.aload_n 0) (6) := ri_of (by decide +kernel) rfl
theorem wi_466_50 : ri (rt_P sc fm) 466 50 (.iload_n 3) (51) := ri_of (by decide +kernel) rfl
theorem wi_466_51 : ri (rt_P sc fm) 466 51 (.iadd) (52) := ri_of (by decide +kernel) rfl
theorem wi_466_52 : ri (rt_P sc fm) 466 52 (.iconst 0) (53) := ri_of (by decide +kernel) rfl
theorem wi_466_53 : ri (rt_P sc fm) 466 53 (.invokevirtual 916) (56) := ri_of (by decide +kernel) rfl
theorem wi_466_56 : ri (rt_P sc fm) 466 56 (.iinc 3 1) (59) := ri_of (by decide +kernel) rfl
theorem wi_466_59 : ri (rt_P sc fm) 466 59 (.goto (-20)) (62) := ri_of (by decide +kernel) rfl
theorem wi_466_6 : ri (rt_P sc fm) 466 6 (.dup) (7) := ri_of (by decide +kernel) rfl
theorem wi_466_62 : ri (rt_P sc fm) 466 62 (.return_) (63) := ri_of (by decide +kernel) rfl
theorem wi_466_7 : ri (rt_P sc fm) 466 7 (.getfield 913) (10) := ri_of (by decide +kernel) rfl
set_option maxRecDepth 100000 in
theorem wm_138 : rx_ml (rt_P sc fm) 138 = 4 := (by decide +kernel : rt_ml 138 = 4)
set_option maxRecDepth 100000 in
theorem wp_466_913 : rx_pt (rt_P sc fm) 466 913 = some (15, 113, .int) := (by decide +kernel : rt_pt 466 913 = some (15, 113, .int))
set_option maxRecDepth 100000 in
theorem wr_466 : rx_rt (rt_P sc fm) 466 = none := (by decide +kernel : rt_rt 466 = none)
/-- MarkHouseModel.frame(I)V -/
def d_466 (n : Nat) (a1 : Int32) (c : cS) : Option (cS) :=
  lt ((c.1 174 113) : Int32) (fun v2 =>
  lt (pI c 174 113 ((c.1 174 113) + 1)) (fun c4 =>
  if ib v2 12 then
  lt (pI c4 253 (ix v2) a1) (fun c7 =>
  if ib v2 12 then
  lt (pI c7 254 (ix v2) 0) (fun c10 =>
  if ib v2 12 then
  lt (pI c10 255 (ix v2) 8) (fun c13 =>
  Option.bind (whl (R := (cS)) (fun s16 : Int32 × cS =>
    if 16 ≤ s16.1 then
      some (.inr s16.2)
    else
      Option.bind (d_138 n ((16 * v2) + s16.1) 0 s16.2) (fun r17 =>
      lt (s16.1 + 1 : Int32) (fun v19 =>
      some (.inl (v19, r17))))) n (0, c13))
  (fun x21 : cS =>
    some x21))
  else none)
  else none)
  else none))
set_option maxRecDepth 100000 in
set_option maxHeartbeats 4000000 in
theorem sp_466 {F Lo n : Nat} {a1 : Int32} {c y : cS} {w : cW} {K : cS → Prop} {Q : ((Option Value) ⊕ String) → List va_E → Prop} (hw : rOK fm w) (hF : 1 ≤ F) (hLo : 23 ≤ Lo)  (h : wp (d_466 n a1 c) K) (hQ : ∀ r, K r → Q (.inl none) (hq false r y w)) : rs (rt_P sc fm) 466 F Lo 0 [(0, .ref 174), (1, .int a1)] [] (hq false c y w) Q := by
  unfold d_466 at h
  obtain ⟨lv, elv⟩ : ∃ lv : rx_L, lv = [(0, .ref 174), (1, .int a1)] := ⟨_, rfl⟩
  rw [← elv]
  have l0 : rx_ld lv 0 = some (.ref 174) := by rw [elv]; rfl
  have l1 : rx_ld lv 1 = some (.int a1) := by rw [elv]; rfl
  refine rs_aldn wi_466_0 l0 ?_
  refine dq_gi wi_466_1 wf_466_913 tf_174_113 ?_
  obtain ⟨v2, e3, h⟩ := wp_lt h
  refine rs_topi e3 ?_
  refine dl_istn wi_466_4 rfl (fun lv l2 t1 => ?_)
  have l0 := t1 _ _ (by decide) (Or.inl rfl) l0
  have l1 := t1 _ _ (by decide) (Or.inl rfl) l1
  refine rs_aldn wi_466_5 l0 ?_
  refine rs_pure wi_466_6 rfl ?_
  refine dq_gi wi_466_7 wf_466_913 tf_174_113 ?_
  refine rs_pure wi_466_10 rfl ?_
  refine rs_topi (v := 1) (by decide) ?_
  refine rs_pure wi_466_11 rfl ?_
  obtain ⟨c4, e5, h⟩ := wp_lt h
  refine dq_pi wi_466_12 wp_466_913 tf_174_113 rfl rfl e5 ?_
  refine rs_aldn wi_466_15 l0 ?_
  refine dq_gr wi_466_16 wf_466_317 tf_174_114 ?_
  refine rs_ildn wi_466_19 l2 ?_
  refine rs_ildn wi_466_20 l1 ?_
  obtain ⟨g6, h⟩ := wp_gd h
  obtain ⟨c7, e8, h⟩ := wp_lt h
  refine dq_iast wi_466_21 t_253 g6 e8 ?_
  refine rs_aldn wi_466_22 l0 ?_
  refine dq_gr wi_466_23 wf_466_320 tf_174_115 ?_
  refine rs_ildn wi_466_26 l2 ?_
  refine rs_pure wi_466_27 rfl ?_
  refine rs_topi (v := 0) (by decide) ?_
  obtain ⟨g9, h⟩ := wp_gd h
  obtain ⟨c10, e11, h⟩ := wp_lt h
  refine dq_iast wi_466_28 t_254 g9 e11 ?_
  refine rs_aldn wi_466_29 l0 ?_
  refine dq_gr wi_466_30 wf_466_323 tf_174_116 ?_
  refine rs_ildn wi_466_33 l2 ?_
  refine rs_pure wi_466_34 rfl ?_
  refine rs_topi (v := 8) (by decide) ?_
  obtain ⟨g12, h⟩ := wp_gd h
  obtain ⟨c13, e14, h⟩ := wp_lt h
  refine dq_iast wi_466_36 t_255 g12 e14 ?_
  refine rs_pure wi_466_37 rfl ?_
  refine rs_topi (v := 0) (by decide) ?_
  refine dl_istn wi_466_38 rfl (fun lv l3 t15 => ?_)
  have l0 := t15 _ _ (by decide) (Or.inl rfl) l0
  have l2 := t15 _ _ (by decide) (Or.inl rfl) l2
  refine whl_ex (A := fun s16 : Int32 × cS => ∀ lv, rx_ld lv 0 = some (.ref 174) → rx_ld lv 2 = some (.int v2) → rx_ld lv 3 = some (.int s16.1) → rs (rt_P sc fm) 466 F Lo 39 lv [] (hq false s16.2 y w) Q) (B := (fun x21 : cS => ∀ lv, rs (rt_P sc fm) 466 F Lo 62 lv [] (hq false x21 y w) Q)) ?_ ?_ _ _ (wp_bind h) _ l0 l2 l3
  · intro s16 h lv l0 l2 l3
    refine rs_ildn wi_466_39 l3 ?_
    refine rs_pure wi_466_40 rfl ?_
    refine rs_topi (v := 16) (by decide) ?_
    refine rs_icge (tg := 62) wi_466_42 ⟨by decide, by decide⟩ (fun q => ?_) (fun q => ?_)
    ·
      have h := wp_pos h q
      exact h _
    ·
      have h := wp_neg h q
      refine rs_aldn wi_466_45 l0 ?_
      refine rs_pure wi_466_46 rfl ?_
      refine rs_topi (v := 16) (by decide) ?_
      refine rs_ildn wi_466_48 l2 ?_
      refine rs_pure wi_466_49 rfl ?_
      refine rs_ildn wi_466_50 l3 ?_
      refine rs_pure wi_466_51 rfl ?_
      refine rs_pure wi_466_52 rfl ?_
      refine rs_topi (v := 0) (by decide) ?_
      refine rs_V wi_466_53 wc_466_916 rfl (dq_isa tf_174_0 wa_15_138) (Nat.le_trans (by decide) hF) (ml_le wm_138 (Nat.le_trans (by decide) hLo)) rfl (sp_138 hw (Nat.le_trans (by decide : 0 ≤ 1 - 1) (Nat.sub_le_sub_right hF 1)) (ml_sub wm_138 (Nat.le_trans (by decide : 0 ≤ 23 - 23) (Nat.sub_le_sub_right hLo 23))) (wp_bind h) (fun r17 h => rs_back0 ?_))
      obtain ⟨v19, e20, h⟩ := wp_lt h
      refine dl_inc wi_466_56 l3 rfl e20 (fun lv l3 t18 => ?_)
      have l0 := t18 _ _ (by decide) (Or.inl rfl) l0
      have l2 := t18 _ _ (by decide) (Or.inl rfl) l2
      refine rs_goto (tg := 39) wi_466_59 ⟨by decide, by decide⟩ ?_
      exact h _ l0 l2 l3
  ·
    intro x21 h lv
    exact rs_vret wi_466_62 wr_466 (hQ x21 h)
theorem t_258 : ta false 258 0 96 := ⟨rfl, by decide, by decide⟩
theorem t_259 : ta false 259 0 384 := ⟨rfl, by decide, by decide⟩
theorem tf_174_112 : fo false 174 15 112 (.int 0) := ⟨_, rfl, rfl, by decide, by decide⟩
theorem tf_174_119 : fo false 174 15 119 (.ref 258) := ⟨_, rfl, rfl, by decide, by decide⟩
theorem tf_174_120 : fo false 174 15 120 (.ref 259) := ⟨_, rfl, rfl, by decide, by decide⟩
theorem tf_174_121 : fo false 174 15 121 (.int 0) := ⟨_, rfl, rfl, by decide, by decide⟩
theorem tf_174_123 : fo false 174 15 123 (.int 0) := ⟨_, rfl, rfl, by decide, by decide⟩
theorem tf_174_124 : fo false 174 15 124 (.int 0) := ⟨_, rfl, rfl, by decide, by decide⟩
theorem tf_174_125 : fo false 174 15 125 (.int 0) := ⟨_, rfl, rfl, by decide, by decide⟩
theorem tf_174_126 : fo false 174 15 126 (.int 0) := ⟨_, rfl, rfl, by decide, by decide⟩
theorem tf_174_127 : fo false 174 15 127 (.int 0) := ⟨_, rfl, rfl, by decide, by decide⟩
theorem tf_174_128 : fo false 174 15 128 (.int 0) := ⟨_, rfl, rfl, by decide, by decide⟩
theorem tf_174_129 : fo false 174 15 129 (.int 0) := ⟨_, rfl, rfl, by decide, by decide⟩
set_option maxRecDepth 100000 in
theorem wa_15_466 : rz_cn 15 (rx_yn (rt_P sc fm) 466).cls = true := (by decide +kernel : rz_cn 15 (rt_yn 466).cls = true)
set_option maxRecDepth 100000 in
theorem wc_139_658 : rx_ct (rt_P sc fm) 139 658 = some (1, 421, 1) := (by decide +kernel : rt_ct 139 658 = some (1, 421, 1))
set_option maxRecDepth 100000 in
theorem wc_139_721 : rx_ct (rt_P sc fm) 139 721 = some (0, 111, 1) := (by decide +kernel : rt_ct 139 721 = some (0, 111, 1))
set_option maxRecDepth 100000 in
theorem wc_139_946 : rx_ct (rt_P sc fm) 139 946 = some (0, 466, 1) := (by decide +kernel : rt_ct 139 946 = some (0, 466, 1))
set_option maxRecDepth 100000 in
theorem wf_139_116 : rx_ft (rt_P sc fm) 139 116 = some (15, 23) := (by decide +kernel : rt_ft 139 116 = some (15, 23))
set_option maxRecDepth 100000 in
theorem wf_139_167 : rx_ft (rt_P sc fm) 139 167 = some (15, 43) := (by decide +kernel : rt_ft 139 167 = some (15, 43))
set_option maxRecDepth 100000 in
theorem wf_139_173 : rx_ft (rt_P sc fm) 139 173 = some (15, 45) := (by decide +kernel : rt_ft 139 173 = some (15, 45))
set_option maxRecDepth 100000 in
theorem wf_139_311 : rx_ft (rt_P sc fm) 139 311 = some (15, 108) := (by decide +kernel : rt_ft 139 311 = some (15, 108))
set_option maxRecDepth 100000 in
theorem wf_139_326 : rx_ft (rt_P sc fm) 139 326 = some (15, 117) := (by decide +kernel : rt_ft 139 326 = some (15, 117))
set_option maxRecDepth 100000 in
theorem wf_139_332 : rx_ft (rt_P sc fm) 139 332 = some (15, 119) := (by decide +kernel : rt_ft 139 332 = some (15, 119))
set_option maxRecDepth 100000 in
theorem wf_139_335 : rx_ft (rt_P sc fm) 139 335 = some (15, 120) := (by decide +kernel : rt_ft 139 335 = some (15, 120))
set_option maxRecDepth 100000 in
theorem wf_139_356 : rx_ft (rt_P sc fm) 139 356 = some (15, 0) := (by decide +kernel : rt_ft 139 356 = some (15, 0))
set_option maxRecDepth 100000 in
theorem wf_139_447 : rx_ft (rt_P sc fm) 139 447 = some (15, 15) := (by decide +kernel : rt_ft 139 447 = some (15, 15))
set_option maxRecDepth 100000 in
theorem wf_139_634 : rx_ft (rt_P sc fm) 139 634 = some (15, 14) := (by decide +kernel : rt_ft 139 634 = some (15, 14))
theorem wi_139_0 : ri (rt_P sc fm) 139 0 (.aload_n 0) (1) := ri_of (by decide +kernel) rfl
theorem wi_139_1 : ri (rt_P sc fm) 139 1 (.aload_n 0) (2) := ri_of (by decide +kernel) rfl
theorem wi_139_100 : ri (rt_P sc fm) 139 100 (.getfield 332) (103) := ri_of (by decide +kernel) rfl
theorem wi_139_103 : ri (rt_P sc fm) 139 103 (.iload_n 3) (104) := ri_of (by decide +kernel) rfl
theorem wi_139_104 : ri (rt_P sc fm) 139 104 (.aload_n 0) (105) := ri_of (by decide +kernel) rfl
theorem wi_139_105 : ri (rt_P sc fm) 139 105 (.getfield 167) (108) := ri_of (by decide +kernel) rfl
theorem wi_139_108 : ri (rt_P sc fm) 139 108 (.iload_n 3) (109) := ri_of (by decide +kernel) rfl
theorem wi_139_109 : ri (rt_P sc fm) 139 109 (.iaload) (110) := ri_of (by decide +kernel) rfl
theorem wi_139_110 : ri (rt_P sc fm) 139 110 (.iastore) (111) := ri_of (by decide +kernel) rfl
theorem wi_139_111 : ri (rt_P sc fm) 139 111 (.iconst 0) (112) := ri_of (by decide +kernel) rfl
theorem wi_139_112 : ri (rt_P sc fm) 139 112 (.istore 4) (114) := ri_of (by decide +kernel) rfl
theorem wi_139_114 : ri (rt_P sc fm) 139 114 (.iload 4) (116) := ri_of (by decide +kernel) rfl
theorem wi_139_116 : ri (rt_P sc fm) 139 116 (.aload_n 0) (117) := ri_of (by decide +kernel) rfl
theorem wi_139_117 : ri (rt_P sc fm) 139 117 (.getfield 447) (120) := ri_of (by decide +kernel) rfl
theorem wi_139_12 : ri (rt_P sc fm) 139 12 (.aload_n 0) (13) := ri_of (by decide +kernel) rfl
theorem wi_139_120 : ri (rt_P sc fm) 139 120 (.if_icmp .ge 27) (123) := ri_of (by decide +kernel) rfl
theorem wi_139_123 : ri (rt_P sc fm) 139 123 (.aload_n 0) (124) := ri_of (by decide +kernel) rfl
theorem wi_139_124 : ri (rt_P sc fm) 139 124 (.getfield 335) (127) := ri_of (by decide +kernel) rfl
theorem wi_139_127 : ri (rt_P sc fm) 139 127 (.iconst 4) (128) := ri_of (by decide +kernel) rfl
theorem wi_139_128 : ri (rt_P sc fm) 139 128 (.iload_n 3) (129) := ri_of (by decide +kernel) rfl
theorem wi_139_129 : ri (rt_P sc fm) 139 129 (.imul) (130) := ri_of (by decide +kernel) rfl
theorem wi_139_13 : ri (rt_P sc fm) 139 13 (.iload_n 1) (14) := ri_of (by decide +kernel) rfl
theorem wi_139_130 : ri (rt_P sc fm) 139 130 (.iload 4) (132) := ri_of (by decide +kernel) rfl
theorem wi_139_132 : ri (rt_P sc fm) 139 132 (.iadd) (133) := ri_of (by decide +kernel) rfl
theorem wi_139_133 : ri (rt_P sc fm) 139 133 (.aload_n 0) (134) := ri_of (by decide +kernel) rfl
theorem wi_139_134 : ri (rt_P sc fm) 139 134 (.getfield 116) (137) := ri_of (by decide +kernel) rfl
theorem wi_139_137 : ri (rt_P sc fm) 139 137 (.iload 4) (139) := ri_of (by decide +kernel) rfl
theorem wi_139_139 : ri (rt_P sc fm) 139 139 (.iaload) (140) := ri_of (by decide +kernel) rfl
theorem wi_139_14 : ri (rt_P sc fm) 139 14 (.invokevirtual 721) (17) := ri_of (by decide +kernel) rfl
theorem wi_139_140 : ri (rt_P sc fm) 139 140 (.iastore) (141) := ri_of (by decide +kernel) rfl
theorem wi_139_141 : ri (rt_P sc fm) 139 141 (.iinc 4 1) (144) := ri_of (by decide +kernel) rfl
theorem wi_139_144 : ri (rt_P sc fm) 139 144 (.goto (-30)) (147) := ri_of (by decide +kernel) rfl
theorem wi_139_147 : ri (rt_P sc fm) 139 147 (.iinc 3 1) (150) := ri_of (by decide +kernel) rfl
theorem wi_139_150 : ri (rt_P sc fm) 139 150 (.goto (-57)) (153) := ri_of (by decide +kernel) rfl
theorem wi_139_153 : ri (rt_P sc fm) 139 153 (.aload_n 0) (154) := ri_of (by decide +kernel) rfl
theorem wi_139_154 : ri (rt_P sc fm) 139 154 (.iload_n 1) (155) := ri_of (by decide +kernel) rfl
theorem wi_139_155 : ri (rt_P sc fm) 139 155 (.invokestatic 658) (158) := ri_of (by decide +kernel) rfl
theorem wi_139_158 : ri (rt_P sc fm) 139 158 (.invokevirtual 946) (161) := ri_of (by decide +kernel) rfl
theorem wi_139_161 : ri (rt_P sc fm) 139 161 (.iconst 0) (162) := ri_of (by decide +kernel) rfl
theorem wi_139_162 : ri (rt_P sc fm) 139 162 (.istore_n 3) (163) := ri_of (by decide +kernel) rfl
theorem wi_139_163 : ri (rt_P sc fm) 139 163 (.iload_n 3) (164) := ri_of (by decide +kernel) rfl
theorem wi_139_164 : ri (rt_P sc fm) 139 164 (.aload_n 0) (165) := ri_of (by decide +kernel) rfl
theorem wi_139_165 : ri (rt_P sc fm) 139 165 (.getfield 173) (168) := ri_of (by decide +kernel) rfl
theorem wi_139_168 : ri (rt_P sc fm) 139 168 (.iload_n 1) (169) := ri_of (by decide +kernel) rfl
theorem wi_139_169 : ri (rt_P sc fm) 139 169 (.invokestatic 658) (172) := ri_of (by decide +kernel) rfl
theorem wi_139_17 : ri (rt_P sc fm) 139 17 (.ifCond .ne 7) (20) := ri_of (by decide +kernel) rfl
theorem wi_139_172 : ri (rt_P sc fm) 139 172 (.iaload) (173) := ri_of (by decide +kernel) rfl
theorem wi_139_173 : ri (rt_P sc fm) 139 173 (.if_icmp .ge 21) (176) := ri_of (by decide +kernel) rfl
theorem wi_139_176 : ri (rt_P sc fm) 139 176 (.aload_n 0) (177) := ri_of (by decide +kernel) rfl
theorem wi_139_177 : ri (rt_P sc fm) 139 177 (.getfield 326) (180) := ri_of (by decide +kernel) rfl
theorem wi_139_180 : ri (rt_P sc fm) 139 180 (.iload_n 3) (181) := ri_of (by decide +kernel) rfl
theorem wi_139_181 : ri (rt_P sc fm) 139 181 (.aload_n 0) (182) := ri_of (by decide +kernel) rfl
theorem wi_139_182 : ri (rt_P sc fm) 139 182 (.getfield 311) (185) := ri_of (by decide +kernel) rfl
theorem wi_139_185 : ri (rt_P sc fm) 139 185 (.iload_n 3) (186) := ri_of (by decide +kernel) rfl
theorem wi_139_186 : ri (rt_P sc fm) 139 186 (.iaload) (187) := ri_of (by decide +kernel) rfl
theorem wi_139_187 : ri (rt_P sc fm) 139 187 (.iastore) (188) := ri_of (by decide +kernel) rfl
theorem wi_139_188 : ri (rt_P sc fm) 139 188 (.iinc 3 1) (191) := ri_of (by decide +kernel) rfl
theorem wi_139_191 : ri (rt_P sc fm) 139 191 (.goto (-28)) (194) := ri_of (by decide +kernel) rfl
theorem wi_139_194 : ri (rt_P sc fm) 139 194 (.return_) (195) := ri_of (by decide +kernel) rfl
theorem wi_139_2 : ri (rt_P sc fm) 139 2 (.getfield 634) (5) := ri_of (by decide +kernel) rfl
theorem wi_139_20 : ri (rt_P sc fm) 139 20 (.iconst 2) (21) := ri_of (by decide +kernel) rfl
theorem wi_139_21 : ri (rt_P sc fm) 139 21 (.goto 4) (24) := ri_of (by decide +kernel) rfl
theorem wi_139_24 : ri (rt_P sc fm) 139 24 (.iconst 0) (25) := ri_of (by decide +kernel) rfl
theorem wi_139_25 : ri (rt_P sc fm) 139 25 (.putfield 356) (28) := ri_of (by decide +kernel) rfl
theorem wi_139_28 : ri (rt_P sc fm) 139 28 (.aload_n 0) (29) := ri_of (by decide +kernel) rfl
theorem wi_139_29 : ri (rt_P sc fm) 139 29 (.getfield 356) (32) := ri_of (by decide +kernel) rfl
theorem wi_139_32 : ri (rt_P sc fm) 139 32 (.ifCond .le 4) (35) := ri_of (by decide +kernel) rfl
theorem wi_139_35 : ri (rt_P sc fm) 139 35 (.return_) (36) := ri_of (by decide +kernel) rfl
theorem wi_139_36 : ri (rt_P sc fm) 139 36 (.aload_n 0) (37) := ri_of (by decide +kernel) rfl
theorem wi_139_37 : ri (rt_P sc fm) 139 37 (.iconst 1) (38) := ri_of (by decide +kernel) rfl
theorem wi_139_38 : ri (rt_P sc fm) 139 38 (.putfield 897) (41) := ri_of (by decide +kernel) rfl
theorem wi_139_41 : ri (rt_P sc fm) 139 41 (.aload_n 0) (42) := ri_of (by decide +kernel) rfl
theorem wi_139_42 : ri (rt_P sc fm) 139 42 (.iload_n 2) (43) := ri_of (by decide +kernel) rfl
theorem wi_139_43 : ri (rt_P sc fm) 139 43 (.putfield 919) (46) := ri_of (by decide +kernel) rfl
theorem wi_139_46 : ri (rt_P sc fm) 139 46 (.aload_n 0) (47) := ri_of (by decide +kernel) rfl
theorem wi_139_47 : ri (rt_P sc fm) 139 47 (.iconst 0) (48) := ri_of (by decide +kernel) rfl
theorem wi_139_48 : ri (rt_P sc fm) 139 48 (.putfield 913) (51) := ri_of (by decide +kernel) rfl
theorem wi_139_5 : ri (rt_P sc fm) 139 5 (.ifCond .ne 7) (8) := ri_of (by decide +kernel) rfl
theorem wi_139_51 : ri (rt_P sc fm) 139 51 (.aload_n 0) (52) := ri_of (by decide +kernel) rfl
theorem wi_139_52 : ri (rt_P sc fm) 139 52 (.iconst 0) (53) := ri_of (by decide +kernel) rfl
theorem wi_139_53 : ri (rt_P sc fm) 139 53 (.putfield 922) (56) := ri_of (by decide +kernel) rfl
theorem wi_139_56 : ri (rt_P sc fm) 139 56 (.aload_n 0) (57) := ri_of (by decide +kernel) rfl
theorem wi_139_57 : ri (rt_P sc fm) 139 57 (.iconst 0) (58) := ri_of (by decide +kernel) rfl
theorem wi_139_58 : ri (rt_P sc fm) 139 58 (.putfield 925) (61) := ri_of (by decide +kernel) rfl
theorem wi_139_61 : ri (rt_P sc fm) 139 61 (.aload_n 0) (62) := ri_of (by decide +kernel) rfl
theorem wi_139_62 : ri (rt_P sc fm) 139 62 (.iconst 0) (63) := ri_of (by decide +kernel) rfl
theorem wi_139_63 : ri (rt_P sc fm) 139 63 (.putfield 928) (66) := ri_of (by decide +kernel) rfl
theorem wi_139_66 : ri (rt_P sc fm) 139 66 (.aload_n 0) (67) := ri_of (by decide +kernel) rfl
theorem wi_139_67 : ri (rt_P sc fm) 139 67 (.iconst (-1)) (68) := ri_of (by decide +kernel) rfl
theorem wi_139_68 : ri (rt_P sc fm) 139 68 (.putfield 931) (71) := ri_of (by decide +kernel) rfl
theorem wi_139_71 : ri (rt_P sc fm) 139 71 (.aload_n 0) (72) := ri_of (by decide +kernel) rfl
theorem wi_139_72 : ri (rt_P sc fm) 139 72 (.iconst (-1)) (73) := ri_of (by decide +kernel) rfl
theorem wi_139_73 : ri (rt_P sc fm) 139 73 (.putfield 934) (76) := ri_of (by decide +kernel) rfl
theorem wi_139_76 : ri (rt_P sc fm) 139 76 (.aload_n 0) (77) := ri_of (by decide +kernel) rfl
theorem wi_139_77 : ri (rt_P sc fm) 139 77 (.iconst (-1)) (78) := ri_of (by decide +kernel) rfl
theorem wi_139_78 : ri (rt_P sc fm) 139 78 (.putfield 937) (81) := ri_of (by decide +kernel) rfl
theorem wi_139_8 : ri (rt_P sc fm) 139 8 (.iconst 1) (9) := ri_of (by decide +kernel) rfl
theorem wi_139_81 : ri (rt_P sc fm) 139 81 (.aload_n 0) (82) := ri_of (by decide +kernel) rfl
theorem wi_139_82 : ri (rt_P sc fm) 139 82 (.iconst 0) (83) := ri_of (by decide +kernel) rfl
theorem wi_139_83 : ri (rt_P sc fm) 139 83 (.putfield 940) (86) := ri_of (by decide +kernel) rfl
theorem wi_139_86 : ri (rt_P sc fm) 139 86 (.aload_n 0) (87) := ri_of (by decide +kernel) rfl
theorem wi_139_87 : ri (rt_P sc fm) 139 87 (.iconst 0) (88) := ri_of (by decide +kernel) rfl
theorem wi_139_88 : ri (rt_P sc fm) 139 88 (.putfield 943) (91) := ri_of (by decide +kernel) rfl
theorem wi_139_9 : ri (rt_P sc fm) 139 9 (.goto 16) (12) := ri_of (by decide +kernel) rfl
theorem wi_139_91 : ri (rt_P sc fm) 139 91 (.iconst 0) (92) := ri_of (by decide +kernel) rfl
theorem wi_139_92 : ri (rt_P sc fm) 139 92 (.istore_n 3) (93) := ri_of (by decide +kernel) rfl
theorem wi_139_93 : ri (rt_P sc fm) 139 93 (.iload_n 3) (94) := ri_of (by decide +kernel) rfl
theorem wi_139_94 : ri (rt_P sc fm) 139 94 (.bipush 96) (96) := ri_of (by decide +kernel) rfl
theorem wi_139_96 : ri (rt_P sc fm) 139 96 (.if_icmp .ge 57) (99) := ri_of (by decide +kernel) rfl
theorem wi_139_99 : ri (rt_P sc fm) 139 99 (.aload_n 0) (100) := ri_of (by decide +kernel) rfl
set_option maxRecDepth 100000 in
theorem wm_466 : rx_ml (rt_P sc fm) 466 = 4 := (by decide +kernel : rt_ml 466 = 4)
set_option maxRecDepth 100000 in
theorem wp_139_356 : rx_pt (rt_P sc fm) 139 356 = some (15, 0, .int) := (by decide +kernel : rt_pt 139 356 = some (15, 0, .int))
set_option maxRecDepth 100000 in
theorem wp_139_897 : rx_pt (rt_P sc fm) 139 897 = some (15, 111, .int) := (by decide +kernel : rt_pt 139 897 = some (15, 111, .int))
set_option maxRecDepth 100000 in
theorem wp_139_913 : rx_pt (rt_P sc fm) 139 913 = some (15, 113, .int) := (by decide +kernel : rt_pt 139 913 = some (15, 113, .int))
set_option maxRecDepth 100000 in
theorem wp_139_919 : rx_pt (rt_P sc fm) 139 919 = some (15, 112, .boolean) := (by decide +kernel : rt_pt 139 919 = some (15, 112, .boolean))
set_option maxRecDepth 100000 in
theorem wp_139_922 : rx_pt (rt_P sc fm) 139 922 = some (15, 121, .int) := (by decide +kernel : rt_pt 139 922 = some (15, 121, .int))
set_option maxRecDepth 100000 in
theorem wp_139_925 : rx_pt (rt_P sc fm) 139 925 = some (15, 123, .int) := (by decide +kernel : rt_pt 139 925 = some (15, 123, .int))
set_option maxRecDepth 100000 in
theorem wp_139_928 : rx_pt (rt_P sc fm) 139 928 = some (15, 124, .int) := (by decide +kernel : rt_pt 139 928 = some (15, 124, .int))
set_option maxRecDepth 100000 in
theorem wp_139_931 : rx_pt (rt_P sc fm) 139 931 = some (15, 125, .int) := (by decide +kernel : rt_pt 139 931 = some (15, 125, .int))
set_option maxRecDepth 100000 in
theorem wp_139_934 : rx_pt (rt_P sc fm) 139 934 = some (15, 126, .int) := (by decide +kernel : rt_pt 139 934 = some (15, 126, .int))
set_option maxRecDepth 100000 in
theorem wp_139_937 : rx_pt (rt_P sc fm) 139 937 = some (15, 127, .int) := (by decide +kernel : rt_pt 139 937 = some (15, 127, .int))
set_option maxRecDepth 100000 in
theorem wp_139_940 : rx_pt (rt_P sc fm) 139 940 = some (15, 128, .int) := (by decide +kernel : rt_pt 139 940 = some (15, 128, .int))
set_option maxRecDepth 100000 in
theorem wp_139_943 : rx_pt (rt_P sc fm) 139 943 = some (15, 129, .int) := (by decide +kernel : rt_pt 139 943 = some (15, 129, .int))
set_option maxRecDepth 100000 in
theorem wr_139 : rx_rt (rt_P sc fm) 139 = none := (by decide +kernel : rt_rt 139 = none)
/-- MarkHouseModel.begin(IZ)V -/
def d_139 (n : Nat) (a1 : Int32) (a2 : Int32) (c : cS) : Option (cS) :=
  jn (fun p1 : Int32 =>
    lt (pI c 174 0 p1) (fun c2 =>
    if (c2.1 174 0) ≤ 0 then
      lt (pI c2 174 111 1) (fun c4 =>
      if nb a2 then
      lt (pI c4 174 112 a2) (fun c7 =>
      lt (pI c7 174 113 0) (fun c9 =>
      lt (pI c9 174 121 0) (fun c11 =>
      lt (pI c11 174 123 0) (fun c13 =>
      lt (pI c13 174 124 0) (fun c15 =>
      lt (pI c15 174 125 (-1)) (fun c17 =>
      lt (pI c17 174 126 (-1)) (fun c19 =>
      lt (pI c19 174 127 (-1)) (fun c21 =>
      lt (pI c21 174 128 0) (fun c23 =>
      lt (pI c23 174 129 0) (fun c25 =>
      Option.bind (whl (R := (cS)) (fun s28 : Int32 × cS =>
        if 96 ≤ s28.1 then
          some (.inr s28.2)
        else
          if ib s28.1 96 then
          if ib s28.1 96 then
          lt (pI s28.2 258 (ix s28.1) (s28.2.1 205 (ix s28.1))) (fun c31 =>
          Option.bind (whl (R := (cS)) (fun s34 : Int32 × cS =>
            if (s34.2.1 174 15) ≤ s34.1 then
              some (.inr s34.2)
            else
              if ib s34.1 4 then
              if ib ((4 * s28.1) + s34.1) 384 then
              lt (pI s34.2 259 (ix ((4 * s28.1) + s34.1)) (s34.2.1 188 (ix s34.1))) (fun c37 =>
              lt (s34.1 + 1 : Int32) (fun v40 =>
              some (.inl (v40, c37))))
              else none
              else none) n (0, c31))
          (fun x42 : cS =>
            lt (s28.1 + 1 : Int32) (fun v44 =>
            some (.inl (v44, x42)))))
          else none
          else none) n (0, c25))
      (fun x46 : cS =>
        Option.bind (d_421 n a1) (fun v47 =>
        Option.bind (d_466 n v47 x46) (fun r48 =>
        Option.bind (whl (R := (cS)) (fun s50 : Int32 × cS =>
          Option.bind (d_421 n a1) (fun v51 =>
          if ib v51 96 then
          if (s50.2.1 207 (ix v51)) ≤ s50.1 then
            some (.inr s50.2)
          else
            if ib s50.1 4 then
            if ib s50.1 192 then
            lt (pI s50.2 256 (ix s50.1) (s50.2.1 251 (ix s50.1))) (fun c55 =>
            lt (s50.1 + 1 : Int32) (fun v58 =>
            some (.inl (v58, c55))))
            else none
            else none
          else none)) n (0, r48))
        (fun x60 : cS =>
          some x60))))))))))))))
      else none)
    else
      some c2))
  (fun j25 =>
  if (c.1 174 14) = 0 then
    j25 1
  else
    Option.bind (d_111 n a1 c) (fun v61 =>
    if v61 = 0 then
      j25 2
    else
      j25 0))
set_option maxRecDepth 100000 in
set_option maxHeartbeats 4000000 in
theorem sp_139 {F Lo n : Nat} {a1 : Int32} {a2 : Int32} {c y : cS} {w : cW} {K : cS → Prop} {Q : ((Option Value) ⊕ String) → List va_E → Prop} (hw : rOK fm w) (hF : 2 ≤ F) (hLo : 46 ≤ Lo)  (h : wp (d_139 n a1 a2 c) K) (hQ : ∀ r, K r → Q (.inl none) (hq false r y w)) : rs (rt_P sc fm) 139 F Lo 0 [(0, .ref 174), (1, .int a1), (2, .int a2)] [] (hq false c y w) Q := by
  unfold d_139 at h
  obtain ⟨lv, elv⟩ : ∃ lv : rx_L, lv = [(0, .ref 174), (1, .int a1), (2, .int a2)] := ⟨_, rfl⟩
  rw [← elv]
  have l0 : rx_ld lv 0 = some (.ref 174) := by rw [elv]; rfl
  have l1 : rx_ld lv 1 = some (.int a1) := by rw [elv]; rfl
  have l2 : rx_ld lv 2 = some (.int a2) := by rw [elv]; rfl
  refine rs_aldn wi_139_0 l0 ?_
  refine rs_aldn wi_139_1 l0 ?_
  refine dq_gi wi_139_2 wf_139_634 tf_174_14 ?_
  refine wp_jn (B := fun p1 : Int32 => ∀ lv, rx_ld lv 0 = some (.ref 174) → rx_ld lv 1 = some (.int a1) → rx_ld lv 2 = some (.int a2) → rs (rt_P sc fm) 139 F Lo 25 lv [.int p1, .ref 174] (hq false c y w) Q) h (fun p1 h lv l0 l1 l2 => ?_) (fun j25 hj25 h => ?_)
  ·
    obtain ⟨c2, e3, h⟩ := wp_lt h
    refine dq_pi wi_139_25 wp_139_356 tf_174_0 rfl rfl e3 ?_
    refine rs_aldn wi_139_28 l0 ?_
    refine dq_gi wi_139_29 wf_139_356 tf_174_0 ?_
    refine rs_ifle (tg := 36) wi_139_32 ⟨by decide, by decide⟩ (fun q => ?_) (fun q => ?_)
    ·
      have h := wp_pos h q
      refine rs_aldn wi_139_36 l0 ?_
      refine rs_pure wi_139_37 rfl ?_
      refine rs_topi (v := 1) (by decide) ?_
      obtain ⟨c4, e5, h⟩ := wp_lt h
      refine dq_pi wi_139_38 wp_139_897 tf_174_111 rfl rfl e5 ?_
      refine rs_aldn wi_139_41 l0 ?_
      refine rs_ildn wi_139_42 l2 ?_
      obtain ⟨g6, h⟩ := wp_gd h
      obtain ⟨c7, e8, h⟩ := wp_lt h
      refine dq_pi wi_139_43 wp_139_919 tf_174_112 (nb_n g6) (nb_f g6) e8 ?_
      refine rs_aldn wi_139_46 l0 ?_
      refine rs_pure wi_139_47 rfl ?_
      refine rs_topi (v := 0) (by decide) ?_
      obtain ⟨c9, e10, h⟩ := wp_lt h
      refine dq_pi wi_139_48 wp_139_913 tf_174_113 rfl rfl e10 ?_
      refine rs_aldn wi_139_51 l0 ?_
      refine rs_pure wi_139_52 rfl ?_
      refine rs_topi (v := 0) (by decide) ?_
      obtain ⟨c11, e12, h⟩ := wp_lt h
      refine dq_pi wi_139_53 wp_139_922 tf_174_121 rfl rfl e12 ?_
      refine rs_aldn wi_139_56 l0 ?_
      refine rs_pure wi_139_57 rfl ?_
      refine rs_topi (v := 0) (by decide) ?_
      obtain ⟨c13, e14, h⟩ := wp_lt h
      refine dq_pi wi_139_58 wp_139_925 tf_174_123 rfl rfl e14 ?_
      refine rs_aldn wi_139_61 l0 ?_
      refine rs_pure wi_139_62 rfl ?_
      refine rs_topi (v := 0) (by decide) ?_
      obtain ⟨c15, e16, h⟩ := wp_lt h
      refine dq_pi wi_139_63 wp_139_928 tf_174_124 rfl rfl e16 ?_
      refine rs_aldn wi_139_66 l0 ?_
      refine rs_pure wi_139_67 rfl ?_
      refine rs_topi (v := (-1)) (by decide) ?_
      obtain ⟨c17, e18, h⟩ := wp_lt h
      refine dq_pi wi_139_68 wp_139_931 tf_174_125 rfl rfl e18 ?_
      refine rs_aldn wi_139_71 l0 ?_
      refine rs_pure wi_139_72 rfl ?_
      refine rs_topi (v := (-1)) (by decide) ?_
      obtain ⟨c19, e20, h⟩ := wp_lt h
      refine dq_pi wi_139_73 wp_139_934 tf_174_126 rfl rfl e20 ?_
      refine rs_aldn wi_139_76 l0 ?_
      refine rs_pure wi_139_77 rfl ?_
      refine rs_topi (v := (-1)) (by decide) ?_
      obtain ⟨c21, e22, h⟩ := wp_lt h
      refine dq_pi wi_139_78 wp_139_937 tf_174_127 rfl rfl e22 ?_
      refine rs_aldn wi_139_81 l0 ?_
      refine rs_pure wi_139_82 rfl ?_
      refine rs_topi (v := 0) (by decide) ?_
      obtain ⟨c23, e24, h⟩ := wp_lt h
      refine dq_pi wi_139_83 wp_139_940 tf_174_128 rfl rfl e24 ?_
      refine rs_aldn wi_139_86 l0 ?_
      refine rs_pure wi_139_87 rfl ?_
      refine rs_topi (v := 0) (by decide) ?_
      obtain ⟨c25, e26, h⟩ := wp_lt h
      refine dq_pi wi_139_88 wp_139_943 tf_174_129 rfl rfl e26 ?_
      refine rs_pure wi_139_91 rfl ?_
      refine rs_topi (v := 0) (by decide) ?_
      refine dl_istn wi_139_92 rfl (fun lv l3 t27 => ?_)
      have l0 := t27 _ _ (by decide) (Or.inl rfl) l0
      have l1 := t27 _ _ (by decide) (Or.inl rfl) l1
      refine whl_ex (A := fun s28 : Int32 × cS => ∀ lv, rx_ld lv 0 = some (.ref 174) → rx_ld lv 1 = some (.int a1) → rx_ld lv 3 = some (.int s28.1) → rs (rt_P sc fm) 139 F Lo 93 lv [] (hq false s28.2 y w) Q) (B := (fun x46 : cS => ∀ lv, rx_ld lv 0 = some (.ref 174) → rx_ld lv 1 = some (.int a1) → rs (rt_P sc fm) 139 F Lo 153 lv [] (hq false x46 y w) Q)) ?_ ?_ _ _ (wp_bind h) _ l0 l1 l3
      · intro s28 h lv l0 l1 l3
        refine rs_ildn wi_139_93 l3 ?_
        refine rs_pure wi_139_94 rfl ?_
        refine rs_topi (v := 96) (by decide) ?_
        refine rs_icge (tg := 153) wi_139_96 ⟨by decide, by decide⟩ (fun q => ?_) (fun q => ?_)
        ·
          have h := wp_pos h q
          exact h _ l0 l1
        ·
          have h := wp_neg h q
          refine rs_aldn wi_139_99 l0 ?_
          refine dq_gr wi_139_100 wf_139_332 tf_174_119 ?_
          refine rs_ildn wi_139_103 l3 ?_
          refine rs_aldn wi_139_104 l0 ?_
          refine dq_gr wi_139_105 wf_139_167 tf_174_43 ?_
          refine rs_ildn wi_139_108 l3 ?_
          obtain ⟨g29, h⟩ := wp_gd h
          refine dq_iald wi_139_109 t_205 g29 ?_
          obtain ⟨g30, h⟩ := wp_gd h
          obtain ⟨c31, e32, h⟩ := wp_lt h
          refine dq_iast wi_139_110 t_258 g30 e32 ?_
          refine rs_pure wi_139_111 rfl ?_
          refine rs_topi (v := 0) (by decide) ?_
          refine dl_ist wi_139_112 rfl (fun lv l4 t33 => ?_)
          have l0 := t33 _ _ (by decide) (Or.inl rfl) l0
          have l1 := t33 _ _ (by decide) (Or.inl rfl) l1
          have l3 := t33 _ _ (by decide) (Or.inl rfl) l3
          refine whl_ex (A := fun s34 : Int32 × cS => ∀ lv, rx_ld lv 0 = some (.ref 174) → rx_ld lv 1 = some (.int a1) → rx_ld lv 3 = some (.int s28.1) → rx_ld lv 4 = some (.int s34.1) → rs (rt_P sc fm) 139 F Lo 114 lv [] (hq false s34.2 y w) Q) (B := (fun x42 : cS => ∀ lv, rx_ld lv 0 = some (.ref 174) → rx_ld lv 1 = some (.int a1) → rx_ld lv 3 = some (.int s28.1) → rs (rt_P sc fm) 139 F Lo 147 lv [] (hq false x42 y w) Q)) ?_ ?_ _ _ (wp_bind h) _ l0 l1 l3 l4
          · intro s34 h lv l0 l1 l3 l4
            refine rs_ild wi_139_114 l4 ?_
            refine rs_aldn wi_139_116 l0 ?_
            refine dq_gi wi_139_117 wf_139_447 tf_174_15 ?_
            refine rs_icge (tg := 147) wi_139_120 ⟨by decide, by decide⟩ (fun q => ?_) (fun q => ?_)
            ·
              have h := wp_pos h q
              exact h _ l0 l1 l3
            ·
              have h := wp_neg h q
              refine rs_aldn wi_139_123 l0 ?_
              refine dq_gr wi_139_124 wf_139_335 tf_174_120 ?_
              refine rs_pure wi_139_127 rfl ?_
              refine rs_topi (v := 4) (by decide) ?_
              refine rs_ildn wi_139_128 l3 ?_
              refine rs_pure wi_139_129 rfl ?_
              refine rs_ild wi_139_130 l4 ?_
              refine rs_pure wi_139_132 rfl ?_
              refine rs_aldn wi_139_133 l0 ?_
              refine dq_gr wi_139_134 wf_139_116 tf_174_23 ?_
              refine rs_ild wi_139_137 l4 ?_
              obtain ⟨g35, h⟩ := wp_gd h
              refine dq_iald wi_139_139 t_188 g35 ?_
              obtain ⟨g36, h⟩ := wp_gd h
              obtain ⟨c37, e38, h⟩ := wp_lt h
              refine dq_iast wi_139_140 t_259 g36 e38 ?_
              obtain ⟨v40, e41, h⟩ := wp_lt h
              refine dl_inc wi_139_141 l4 rfl e41 (fun lv l4 t39 => ?_)
              have l0 := t39 _ _ (by decide) (Or.inl rfl) l0
              have l1 := t39 _ _ (by decide) (Or.inl rfl) l1
              have l3 := t39 _ _ (by decide) (Or.inl rfl) l3
              refine rs_goto (tg := 114) wi_139_144 ⟨by decide, by decide⟩ ?_
              exact h _ l0 l1 l3 l4
          ·
            intro x42 h lv l0 l1 l3
            obtain ⟨v44, e45, h⟩ := wp_lt h
            refine dl_inc wi_139_147 l3 rfl e45 (fun lv l3 t43 => ?_)
            have l0 := t43 _ _ (by decide) (Or.inl rfl) l0
            have l1 := t43 _ _ (by decide) (Or.inl rfl) l1
            refine rs_goto (tg := 93) wi_139_150 ⟨by decide, by decide⟩ ?_
            exact h _ l0 l1 l3
      ·
        intro x46 h lv l0 l1
        refine rs_aldn wi_139_153 l0 ?_
        refine rs_ildn wi_139_154 l1 ?_
        refine rs_S wi_139_155 wc_139_658 (Or.inl rfl) rfl (Nat.le_trans (by decide) hF) (ml_le wm_421 (Nat.le_trans (by decide) hLo)) rfl (sp_421 (Nat.le_trans (by decide : 0 ≤ 2 - 1) (Nat.sub_le_sub_right hF 1)) (ml_sub wm_421 (Nat.le_trans (by decide : 0 ≤ 46 - 20) (Nat.sub_le_sub_right hLo 20))) (wp_bind h) (fun v47 h => rs_back1 ?_))
        refine rs_V wi_139_158 wc_139_946 rfl (dq_isa tf_174_0 wa_15_466) (Nat.le_trans (by decide) hF) (ml_le wm_466 (Nat.le_trans (by decide) hLo)) rfl (sp_466 hw (Nat.le_trans (by decide : 1 ≤ 2 - 1) (Nat.sub_le_sub_right hF 1)) (ml_sub wm_466 (Nat.le_trans (by decide : 23 ≤ 46 - 23) (Nat.sub_le_sub_right hLo 23))) (wp_bind h) (fun r48 h => rs_back0 ?_))
        refine rs_pure wi_139_161 rfl ?_
        refine rs_topi (v := 0) (by decide) ?_
        refine dl_istn wi_139_162 rfl (fun lv l3 t49 => ?_)
        have l0 := t49 _ _ (by decide) (Or.inl rfl) l0
        have l1 := t49 _ _ (by decide) (Or.inl rfl) l1
        refine whl_ex (A := fun s50 : Int32 × cS => ∀ lv, rx_ld lv 0 = some (.ref 174) → rx_ld lv 1 = some (.int a1) → rx_ld lv 3 = some (.int s50.1) → rs (rt_P sc fm) 139 F Lo 163 lv [] (hq false s50.2 y w) Q) (B := (fun x60 : cS => ∀ lv, rs (rt_P sc fm) 139 F Lo 194 lv [] (hq false x60 y w) Q)) ?_ ?_ _ _ (wp_bind h) _ l0 l1 l3
        · intro s50 h lv l0 l1 l3
          refine rs_ildn wi_139_163 l3 ?_
          refine rs_aldn wi_139_164 l0 ?_
          refine dq_gr wi_139_165 wf_139_173 tf_174_45 ?_
          refine rs_ildn wi_139_168 l1 ?_
          refine rs_S wi_139_169 wc_139_658 (Or.inl rfl) rfl (Nat.le_trans (by decide) hF) (ml_le wm_421 (Nat.le_trans (by decide) hLo)) rfl (sp_421 (Nat.le_trans (by decide : 0 ≤ 2 - 1) (Nat.sub_le_sub_right hF 1)) (ml_sub wm_421 (Nat.le_trans (by decide : 0 ≤ 46 - 20) (Nat.sub_le_sub_right hLo 20))) (wp_bind h) (fun v51 h => rs_back1 ?_))
          obtain ⟨g52, h⟩ := wp_gd h
          refine dq_iald wi_139_172 t_207 g52 ?_
          refine rs_icge (tg := 194) wi_139_173 ⟨by decide, by decide⟩ (fun q => ?_) (fun q => ?_)
          ·
            have h := wp_pos h q
            exact h _
          ·
            have h := wp_neg h q
            refine rs_aldn wi_139_176 l0 ?_
            refine dq_gr wi_139_177 wf_139_326 tf_174_117 ?_
            refine rs_ildn wi_139_180 l3 ?_
            refine rs_aldn wi_139_181 l0 ?_
            refine dq_gr wi_139_182 wf_139_311 tf_174_108 ?_
            refine rs_ildn wi_139_185 l3 ?_
            obtain ⟨g53, h⟩ := wp_gd h
            refine dq_iald wi_139_186 t_251 g53 ?_
            obtain ⟨g54, h⟩ := wp_gd h
            obtain ⟨c55, e56, h⟩ := wp_lt h
            refine dq_iast wi_139_187 t_256 g54 e56 ?_
            obtain ⟨v58, e59, h⟩ := wp_lt h
            refine dl_inc wi_139_188 l3 rfl e59 (fun lv l3 t57 => ?_)
            have l0 := t57 _ _ (by decide) (Or.inl rfl) l0
            have l1 := t57 _ _ (by decide) (Or.inl rfl) l1
            refine rs_goto (tg := 163) wi_139_191 ⟨by decide, by decide⟩ ?_
            exact h _ l0 l1 l3
        ·
          intro x60 h lv
          exact rs_vret wi_139_194 wr_139 (hQ x60 h)
    ·
      have h := wp_neg h q
      exact rs_vret wi_139_35 wr_139 (hQ c2 h)
  refine rs_ifne (tg := 12) wi_139_5 ⟨by decide, by decide⟩ (fun q => ?_) (fun q => ?_)
  ·
    have h := wp_neg h q
    refine rs_aldn wi_139_12 l0 ?_
    refine rs_ildn wi_139_13 l1 ?_
    refine rs_V wi_139_14 wc_139_721 rfl (dq_isa tf_174_0 wa_15_111) (Nat.le_trans (by decide) hF) (ml_le wm_111 (Nat.le_trans (by decide) hLo)) rfl (sp_111 hw (Nat.le_trans (by decide : 1 ≤ 2 - 1) (Nat.sub_le_sub_right hF 1)) (ml_sub wm_111 (Nat.le_trans (by decide : 24 ≤ 46 - 21) (Nat.sub_le_sub_right hLo 21))) (wp_bind h) (fun v61 h => rs_back1 ?_))
    refine rs_ifne (tg := 24) wi_139_17 ⟨by decide, by decide⟩ (fun q => ?_) (fun q => ?_)
    ·
      have h := wp_neg h q
      refine rs_pure wi_139_24 rfl ?_
      refine rs_topi (v := 0) (by decide) ?_
      exact hj25 _ h _ l0 l1 l2
    ·
      have h := wp_pos h q
      refine rs_pure wi_139_20 rfl ?_
      refine rs_topi (v := 2) (by decide) ?_
      refine rs_goto (tg := 25) wi_139_21 ⟨by decide, by decide⟩ ?_
      exact hj25 _ h _ l0 l1 l2
  ·
    have h := wp_pos h q
    refine rs_pure wi_139_8 rfl ?_
    refine rs_topi (v := 1) (by decide) ?_
    refine rs_goto (tg := 25) wi_139_9 ⟨by decide, by decide⟩ ?_
    exact hj25 _ h _ l0 l1 l2
set_option maxRecDepth 100000 in
theorem wc_468_535 : rx_ct (rt_P sc fm) 468 535 = some (0, 387, 3) := (by decide +kernel : rt_ct 468 535 = some (0, 387, 3))
set_option maxRecDepth 100000 in
theorem wc_468_865 : rx_ct (rt_P sc fm) 468 865 = some (0, 459, 2) := (by decide +kernel : rt_ct 468 865 = some (0, 459, 2))
set_option maxRecDepth 100000 in
theorem wc_468_903 : rx_ct (rt_P sc fm) 468 903 = some (1, 463, 3) := (by decide +kernel : rt_ct 468 903 = some (1, 463, 3))
set_option maxRecDepth 100000 in
theorem wf_468_308 : rx_ft (rt_P sc fm) 468 308 = some (15, 107) := (by decide +kernel : rt_ft 468 308 = some (15, 107))
set_option maxRecDepth 100000 in
theorem wf_468_323 : rx_ft (rt_P sc fm) 468 323 = some (15, 116) := (by decide +kernel : rt_ft 468 323 = some (15, 116))
set_option maxRecDepth 100000 in
theorem wf_468_329 : rx_ft (rt_P sc fm) 468 329 = some (15, 118) := (by decide +kernel : rt_ft 468 329 = some (15, 118))
set_option maxRecDepth 100000 in
theorem wf_468_447 : rx_ft (rt_P sc fm) 468 447 = some (15, 15) := (by decide +kernel : rt_ft 468 447 = some (15, 15))
set_option maxRecDepth 100000 in
theorem wf_468_943 : rx_ft (rt_P sc fm) 468 943 = some (15, 129) := (by decide +kernel : rt_ft 468 943 = some (15, 129))
theorem wi_468_0 : ri (rt_P sc fm) 468 0 (.iconst 0) (1) := ri_of (by decide +kernel) rfl
theorem wi_468_1 : ri (rt_P sc fm) 468 1 (.istore_n 3) (2) := ri_of (by decide +kernel) rfl
theorem wi_468_10 : ri (rt_P sc fm) 468 10 (.iconst 0) (11) := ri_of (by decide +kernel) rfl
theorem wi_468_102 : ri (rt_P sc fm) 468 102 (.goto (-100)) (105) := ri_of (by decide +kernel) rfl
theorem wi_468_105 : ri (rt_P sc fm) 468 105 (.iconst 1) (106) := ri_of (by decide +kernel) rfl
theorem wi_468_106 : ri (rt_P sc fm) 468 106 (.ireturn) (107) := ri_of (by decide +kernel) rfl
theorem wi_468_11 : ri (rt_P sc fm) 468 11 (.istore 4) (13) := ri_of (by decide +kernel) rfl
theorem wi_468_13 : ri (rt_P sc fm) 468 13 (.iload 4) (15) := ri_of (by decide +kernel) rfl
theorem wi_468_15 : ri (rt_P sc fm) 468 15 (.iconst 4) (16) := ri_of (by decide +kernel) rfl
theorem wi_468_16 : ri (rt_P sc fm) 468 16 (.if_icmp .ge 83) (19) := ri_of (by decide +kernel) rfl
theorem wi_468_19 : ri (rt_P sc fm) 468 19 (.aload_n 0) (20) := ri_of (by decide +kernel) rfl
theorem wi_468_2 : ri (rt_P sc fm) 468 2 (.iload_n 3) (3) := ri_of (by decide +kernel) rfl
theorem wi_468_20 : ri (rt_P sc fm) 468 20 (.getfield 308) (23) := ri_of (by decide +kernel) rfl
theorem wi_468_23 : ri (rt_P sc fm) 468 23 (.iload_n 2) (24) := ri_of (by decide +kernel) rfl
theorem wi_468_24 : ri (rt_P sc fm) 468 24 (.iload_n 3) (25) := ri_of (by decide +kernel) rfl
theorem wi_468_25 : ri (rt_P sc fm) 468 25 (.iload 4) (27) := ri_of (by decide +kernel) rfl
theorem wi_468_27 : ri (rt_P sc fm) 468 27 (.invokestatic 903) (30) := ri_of (by decide +kernel) rfl
theorem wi_468_3 : ri (rt_P sc fm) 468 3 (.aload_n 0) (4) := ri_of (by decide +kernel) rfl
theorem wi_468_30 : ri (rt_P sc fm) 468 30 (.iaload) (31) := ri_of (by decide +kernel) rfl
theorem wi_468_31 : ri (rt_P sc fm) 468 31 (.istore 5) (33) := ri_of (by decide +kernel) rfl
theorem wi_468_33 : ri (rt_P sc fm) 468 33 (.iload 5) (35) := ri_of (by decide +kernel) rfl
theorem wi_468_35 : ri (rt_P sc fm) 468 35 (.ifCond .ge 6) (38) := ri_of (by decide +kernel) rfl
theorem wi_468_38 : ri (rt_P sc fm) 468 38 (.goto 55) (41) := ri_of (by decide +kernel) rfl
theorem wi_468_4 : ri (rt_P sc fm) 468 4 (.getfield 447) (7) := ri_of (by decide +kernel) rfl
theorem wi_468_41 : ri (rt_P sc fm) 468 41 (.aload_n 0) (42) := ri_of (by decide +kernel) rfl
theorem wi_468_42 : ri (rt_P sc fm) 468 42 (.dup) (43) := ri_of (by decide +kernel) rfl
theorem wi_468_43 : ri (rt_P sc fm) 468 43 (.getfield 943) (46) := ri_of (by decide +kernel) rfl
theorem wi_468_46 : ri (rt_P sc fm) 468 46 (.iconst 1) (47) := ri_of (by decide +kernel) rfl
theorem wi_468_47 : ri (rt_P sc fm) 468 47 (.iadd) (48) := ri_of (by decide +kernel) rfl
theorem wi_468_48 : ri (rt_P sc fm) 468 48 (.putfield 943) (51) := ri_of (by decide +kernel) rfl
theorem wi_468_51 : ri (rt_P sc fm) 468 51 (.aload_n 0) (52) := ri_of (by decide +kernel) rfl
theorem wi_468_52 : ri (rt_P sc fm) 468 52 (.iload_n 3) (53) := ri_of (by decide +kernel) rfl
theorem wi_468_53 : ri (rt_P sc fm) 468 53 (.aload_n 0) (54) := ri_of (by decide +kernel) rfl
theorem wi_468_54 : ri (rt_P sc fm) 468 54 (.getfield 329) (57) := ri_of (by decide +kernel) rfl
theorem wi_468_57 : ri (rt_P sc fm) 468 57 (.iconst 4) (58) := ri_of (by decide +kernel) rfl
theorem wi_468_58 : ri (rt_P sc fm) 468 58 (.bipush 16) (60) := ri_of (by decide +kernel) rfl
theorem wi_468_60 : ri (rt_P sc fm) 468 60 (.iload_n 1) (61) := ri_of (by decide +kernel) rfl
theorem wi_468_61 : ri (rt_P sc fm) 468 61 (.imul) (62) := ri_of (by decide +kernel) rfl
theorem wi_468_62 : ri (rt_P sc fm) 468 62 (.aload_n 0) (63) := ri_of (by decide +kernel) rfl
theorem wi_468_63 : ri (rt_P sc fm) 468 63 (.getfield 323) (66) := ri_of (by decide +kernel) rfl
theorem wi_468_66 : ri (rt_P sc fm) 468 66 (.iload_n 1) (67) := ri_of (by decide +kernel) rfl
theorem wi_468_67 : ri (rt_P sc fm) 468 67 (.iaload) (68) := ri_of (by decide +kernel) rfl
theorem wi_468_68 : ri (rt_P sc fm) 468 68 (.iadd) (69) := ri_of (by decide +kernel) rfl
theorem wi_468_69 : ri (rt_P sc fm) 468 69 (.iconst 1) (70) := ri_of (by decide +kernel) rfl
theorem wi_468_7 : ri (rt_P sc fm) 468 7 (.if_icmp .ge 98) (10) := ri_of (by decide +kernel) rfl
theorem wi_468_70 : ri (rt_P sc fm) 468 70 (.isub) (71) := ri_of (by decide +kernel) rfl
theorem wi_468_71 : ri (rt_P sc fm) 468 71 (.aload_n 0) (72) := ri_of (by decide +kernel) rfl
theorem wi_468_72 : ri (rt_P sc fm) 468 72 (.iload_n 2) (73) := ri_of (by decide +kernel) rfl
theorem wi_468_73 : ri (rt_P sc fm) 468 73 (.iload 4) (75) := ri_of (by decide +kernel) rfl
theorem wi_468_75 : ri (rt_P sc fm) 468 75 (.invokevirtual 865) (78) := ri_of (by decide +kernel) rfl
theorem wi_468_78 : ri (rt_P sc fm) 468 78 (.isub) (79) := ri_of (by decide +kernel) rfl
theorem wi_468_79 : ri (rt_P sc fm) 468 79 (.imul) (80) := ri_of (by decide +kernel) rfl
theorem wi_468_80 : ri (rt_P sc fm) 468 80 (.iload_n 3) (81) := ri_of (by decide +kernel) rfl
theorem wi_468_81 : ri (rt_P sc fm) 468 81 (.iadd) (82) := ri_of (by decide +kernel) rfl
theorem wi_468_82 : ri (rt_P sc fm) 468 82 (.iaload) (83) := ri_of (by decide +kernel) rfl
theorem wi_468_83 : ri (rt_P sc fm) 468 83 (.iload 5) (85) := ri_of (by decide +kernel) rfl
theorem wi_468_85 : ri (rt_P sc fm) 468 85 (.invokevirtual 535) (88) := ri_of (by decide +kernel) rfl
theorem wi_468_88 : ri (rt_P sc fm) 468 88 (.ifCond .ne 5) (91) := ri_of (by decide +kernel) rfl
theorem wi_468_91 : ri (rt_P sc fm) 468 91 (.iconst 0) (92) := ri_of (by decide +kernel) rfl
theorem wi_468_92 : ri (rt_P sc fm) 468 92 (.ireturn) (93) := ri_of (by decide +kernel) rfl
theorem wi_468_93 : ri (rt_P sc fm) 468 93 (.iinc 4 1) (96) := ri_of (by decide +kernel) rfl
theorem wi_468_96 : ri (rt_P sc fm) 468 96 (.goto (-83)) (99) := ri_of (by decide +kernel) rfl
theorem wi_468_99 : ri (rt_P sc fm) 468 99 (.iinc 3 1) (102) := ri_of (by decide +kernel) rfl
set_option maxRecDepth 100000 in
theorem wp_468_943 : rx_pt (rt_P sc fm) 468 943 = some (15, 129, .int) := (by decide +kernel : rt_pt 468 943 = some (15, 129, .int))
set_option maxRecDepth 100000 in
theorem wr_468 : rx_rt (rt_P sc fm) 468 = (some FieldType.boolean) := (by decide +kernel : rt_rt 468 = (some FieldType.boolean))
/-- MarkHouseModel.passes(II)Z -/
def d_468 (n : Nat) (a1 : Int32) (a2 : Int32) (c : cS) : Option (Int32 × cS) :=
  Option.bind (whl (R := (cS) ⊕ (cS)) (fun s2 : Int32 × cS =>
    if (s2.2.1 174 15) ≤ s2.1 then
      some (.inr (.inl s2.2))
    else
      Option.bind (whl (R := (cS) ⊕ (cS)) (fun s4 : Int32 × cS =>
        if 4 ≤ s4.1 then
          some (.inr (.inl s4.2))
        else
          Option.bind (d_463 n a2 s2.1 s4.1) (fun v5 =>
          if ib v5 61440 then
          lt ((s4.2.1 250 (ix v5)) : Int32) (fun v8 =>
          jn (fun p10 : cS =>
            lt (s4.1 + 1 : Int32) (fun v12 =>
            some (.inl (v12, p10))))
          (fun j93 =>
          if 0 ≤ v8 then
            lt (pI s4.2 174 129 ((s4.2.1 174 129) + 1)) (fun c14 =>
            if ib a1 12 then
            Option.bind (d_459 n a2 s4.1 c14) (fun v17 =>
            if ib ((4 * ((((16 * a1) + (c14.1 255 (ix a1))) - 1) - v17)) + s2.1) 768 then
            Option.bind (d_387 n s2.1 (c14.1 257 (ix ((4 * ((((16 * a1) + (c14.1 255 (ix a1))) - 1) - v17)) + s2.1))) v8 c14) (fun v19 =>
            if v19 = 0 then
              some (.inr (.inr c14))
            else
              j93 c14)
            else none)
            else none)
          else
            j93 s4.2))
          else none)) n (0, s2.2))
      (Sum.elim (fun x20 : cS =>
        lt (s2.1 + 1 : Int32) (fun v22 =>
        some (.inl (v22, x20))))
      (fun x24 : cS =>
        some (.inr (.inr x24))))) n (0, c))
  (Sum.elim (fun x25 : cS =>
    some (1, x25))
  (fun x26 : cS =>
    some (0, x26)))
set_option maxRecDepth 100000 in
set_option maxHeartbeats 4000000 in
theorem sp_468 {F Lo n : Nat} {a1 : Int32} {a2 : Int32} {c y : cS} {w : cW} {K : Int32 × cS → Prop} {Q : ((Option Value) ⊕ String) → List va_E → Prop} (hw : rOK fm w) (hF : 2 ≤ F) (hLo : 46 ≤ Lo)  (h : wp (d_468 n a1 a2 c) K) (hQ : ∀ r, K r → Q (.inl (some (.int r.1))) (hq false r.2 y w)) : rs (rt_P sc fm) 468 F Lo 0 [(0, .ref 174), (1, .int a1), (2, .int a2)] [] (hq false c y w) Q := by
  unfold d_468 at h
  obtain ⟨lv, elv⟩ : ∃ lv : rx_L, lv = [(0, .ref 174), (1, .int a1), (2, .int a2)] := ⟨_, rfl⟩
  rw [← elv]
  have l0 : rx_ld lv 0 = some (.ref 174) := by rw [elv]; rfl
  have l1 : rx_ld lv 1 = some (.int a1) := by rw [elv]; rfl
  have l2 : rx_ld lv 2 = some (.int a2) := by rw [elv]; rfl
  refine rs_pure wi_468_0 rfl ?_
  refine rs_topi (v := 0) (by decide) ?_
  refine dl_istn wi_468_1 rfl (fun lv l3 t1 => ?_)
  have l0 := t1 _ _ (by decide) (Or.inl rfl) l0
  have l1 := t1 _ _ (by decide) (Or.inl rfl) l1
  have l2 := t1 _ _ (by decide) (Or.inl rfl) l2
  refine whl_ex (A := fun s2 : Int32 × cS => ∀ lv, rx_ld lv 0 = some (.ref 174) → rx_ld lv 1 = some (.int a1) → rx_ld lv 2 = some (.int a2) → rx_ld lv 3 = some (.int s2.1) → rs (rt_P sc fm) 468 F Lo 2 lv [] (hq false s2.2 y w) Q) (B := (Sum.elim (fun x25 : cS => ∀ lv, rs (rt_P sc fm) 468 F Lo 105 lv [] (hq false x25 y w) Q) (fun x26 : cS => ∀ lv, rs (rt_P sc fm) 468 F Lo 91 lv [] (hq false x26 y w) Q))) ?_ ?_ _ _ (wp_bind h) _ l0 l1 l2 l3
  · intro s2 h lv l0 l1 l2 l3
    refine rs_ildn wi_468_2 l3 ?_
    refine rs_aldn wi_468_3 l0 ?_
    refine dq_gi wi_468_4 wf_468_447 tf_174_15 ?_
    refine rs_icge (tg := 105) wi_468_7 ⟨by decide, by decide⟩ (fun q => ?_) (fun q => ?_)
    ·
      have h := wp_pos h q
      exact h _
    ·
      have h := wp_neg h q
      refine rs_pure wi_468_10 rfl ?_
      refine rs_topi (v := 0) (by decide) ?_
      refine dl_ist wi_468_11 rfl (fun lv l4 t3 => ?_)
      have l0 := t3 _ _ (by decide) (Or.inl rfl) l0
      have l1 := t3 _ _ (by decide) (Or.inl rfl) l1
      have l2 := t3 _ _ (by decide) (Or.inl rfl) l2
      have l3 := t3 _ _ (by decide) (Or.inl rfl) l3
      refine whl_ex (A := fun s4 : Int32 × cS => ∀ lv, rx_ld lv 0 = some (.ref 174) → rx_ld lv 1 = some (.int a1) → rx_ld lv 2 = some (.int a2) → rx_ld lv 3 = some (.int s2.1) → rx_ld lv 4 = some (.int s4.1) → rs (rt_P sc fm) 468 F Lo 13 lv [] (hq false s4.2 y w) Q) (B := (Sum.elim (fun x20 : cS => ∀ lv, rx_ld lv 0 = some (.ref 174) → rx_ld lv 1 = some (.int a1) → rx_ld lv 2 = some (.int a2) → rx_ld lv 3 = some (.int s2.1) → rs (rt_P sc fm) 468 F Lo 99 lv [] (hq false x20 y w) Q) (fun x24 : cS => ∀ lv, rs (rt_P sc fm) 468 F Lo 91 lv [] (hq false x24 y w) Q))) ?_ ?_ _ _ (wp_bind h) _ l0 l1 l2 l3 l4
      · intro s4 h lv l0 l1 l2 l3 l4
        refine rs_ild wi_468_13 l4 ?_
        refine rs_pure wi_468_15 rfl ?_
        refine rs_topi (v := 4) (by decide) ?_
        refine rs_icge (tg := 99) wi_468_16 ⟨by decide, by decide⟩ (fun q => ?_) (fun q => ?_)
        ·
          have h := wp_pos h q
          exact h _ l0 l1 l2 l3
        ·
          have h := wp_neg h q
          refine rs_aldn wi_468_19 l0 ?_
          refine dq_gr wi_468_20 wf_468_308 tf_174_107 ?_
          refine rs_ildn wi_468_23 l2 ?_
          refine rs_ildn wi_468_24 l3 ?_
          refine rs_ild wi_468_25 l4 ?_
          refine rs_S wi_468_27 wc_468_903 (Or.inl rfl) rfl (Nat.le_trans (by decide) hF) (ml_le wm_463 (Nat.le_trans (by decide) hLo)) rfl (sp_463 (Nat.le_trans (by decide : 0 ≤ 2 - 1) (Nat.sub_le_sub_right hF 1)) (ml_sub wm_463 (Nat.le_trans (by decide : 0 ≤ 46 - 22) (Nat.sub_le_sub_right hLo 22))) (wp_bind h) (fun v5 h => rs_back1 ?_))
          obtain ⟨g6, h⟩ := wp_gd h
          refine dq_iald wi_468_30 t_250 g6 ?_
          obtain ⟨v8, e9, h⟩ := wp_lt h
          refine rs_topi e9 ?_
          refine dl_ist wi_468_31 rfl (fun lv l5 t7 => ?_)
          have l0 := t7 _ _ (by decide) (Or.inl rfl) l0
          have l1 := t7 _ _ (by decide) (Or.inl rfl) l1
          have l2 := t7 _ _ (by decide) (Or.inl rfl) l2
          have l3 := t7 _ _ (by decide) (Or.inl rfl) l3
          have l4 := t7 _ _ (by decide) (Or.inl rfl) l4
          refine rs_ild wi_468_33 l5 ?_
          refine wp_jn (B := fun p10 : cS => ∀ lv, rx_ld lv 0 = some (.ref 174) → rx_ld lv 1 = some (.int a1) → rx_ld lv 2 = some (.int a2) → rx_ld lv 3 = some (.int s2.1) → rx_ld lv 4 = some (.int s4.1) → rs (rt_P sc fm) 468 F Lo 93 lv [] (hq false p10 y w) Q) h (fun p10 h lv l0 l1 l2 l3 l4 => ?_) (fun j93 hj93 h => ?_)
          ·
            obtain ⟨v12, e13, h⟩ := wp_lt h
            refine dl_inc wi_468_93 l4 rfl e13 (fun lv l4 t11 => ?_)
            have l0 := t11 _ _ (by decide) (Or.inl rfl) l0
            have l1 := t11 _ _ (by decide) (Or.inl rfl) l1
            have l2 := t11 _ _ (by decide) (Or.inl rfl) l2
            have l3 := t11 _ _ (by decide) (Or.inl rfl) l3
            refine rs_goto (tg := 13) wi_468_96 ⟨by decide, by decide⟩ ?_
            exact h _ l0 l1 l2 l3 l4
          refine rs_ifge (tg := 41) wi_468_35 ⟨by decide, by decide⟩ (fun q => ?_) (fun q => ?_)
          ·
            have h := wp_pos h q
            refine rs_aldn wi_468_41 l0 ?_
            refine rs_pure wi_468_42 rfl ?_
            refine dq_gi wi_468_43 wf_468_943 tf_174_129 ?_
            refine rs_pure wi_468_46 rfl ?_
            refine rs_topi (v := 1) (by decide) ?_
            refine rs_pure wi_468_47 rfl ?_
            obtain ⟨c14, e15, h⟩ := wp_lt h
            refine dq_pi wi_468_48 wp_468_943 tf_174_129 rfl rfl e15 ?_
            refine rs_aldn wi_468_51 l0 ?_
            refine rs_ildn wi_468_52 l3 ?_
            refine rs_aldn wi_468_53 l0 ?_
            refine dq_gr wi_468_54 wf_468_329 tf_174_118 ?_
            refine rs_pure wi_468_57 rfl ?_
            refine rs_topi (v := 4) (by decide) ?_
            refine rs_pure wi_468_58 rfl ?_
            refine rs_topi (v := 16) (by decide) ?_
            refine rs_ildn wi_468_60 l1 ?_
            refine rs_pure wi_468_61 rfl ?_
            refine rs_aldn wi_468_62 l0 ?_
            refine dq_gr wi_468_63 wf_468_323 tf_174_116 ?_
            refine rs_ildn wi_468_66 l1 ?_
            obtain ⟨g16, h⟩ := wp_gd h
            refine dq_iald wi_468_67 t_255 g16 ?_
            refine rs_pure wi_468_68 rfl ?_
            refine rs_pure wi_468_69 rfl ?_
            refine rs_topi (v := 1) (by decide) ?_
            refine rs_pure wi_468_70 rfl ?_
            refine rs_aldn wi_468_71 l0 ?_
            refine rs_ildn wi_468_72 l2 ?_
            refine rs_ild wi_468_73 l4 ?_
            refine rs_V wi_468_75 wc_468_865 rfl (dq_isa tf_174_0 wa_15_459) (Nat.le_trans (by decide) hF) (ml_le wm_459 (Nat.le_trans (by decide) hLo)) rfl (sp_459 hw (Nat.le_trans (by decide : 1 ≤ 2 - 1) (Nat.sub_le_sub_right hF 1)) (ml_sub wm_459 (Nat.le_trans (by decide : 21 ≤ 46 - 22) (Nat.sub_le_sub_right hLo 22))) (wp_bind h) (fun v17 h => rs_back1 ?_))
            refine rs_pure wi_468_78 rfl ?_
            refine rs_pure wi_468_79 rfl ?_
            refine rs_ildn wi_468_80 l3 ?_
            refine rs_pure wi_468_81 rfl ?_
            obtain ⟨g18, h⟩ := wp_gd h
            refine dq_iald wi_468_82 t_257 g18 ?_
            refine rs_ild wi_468_83 l5 ?_
            refine rs_V wi_468_85 wc_468_535 rfl (dq_isa tf_174_0 wa_15_387) (Nat.le_trans (by decide) hF) (ml_le wm_387 (Nat.le_trans (by decide) hLo)) rfl (sp_387 hw (Nat.le_trans (by decide : 1 ≤ 2 - 1) (Nat.sub_le_sub_right hF 1)) (ml_sub wm_387 (Nat.le_trans (by decide : 23 ≤ 46 - 23) (Nat.sub_le_sub_right hLo 23))) (wp_bind h) (fun v19 h => rs_back1 ?_))
            refine rs_ifne (tg := 93) wi_468_88 ⟨by decide, by decide⟩ (fun q => ?_) (fun q => ?_)
            ·
              have h := wp_neg h q
              exact hj93 _ h _ l0 l1 l2 l3 l4
            ·
              have h := wp_pos h q
              exact h _
          ·
            have h := wp_neg h q
            refine rs_goto (tg := 93) wi_468_38 ⟨by decide, by decide⟩ ?_
            exact hj93 _ h _ l0 l1 l2 l3 l4
      ·
        refine sum_all ?_ ?_
        ·
          intro x20 h lv l0 l1 l2 l3
          have h := wp_inl h
          obtain ⟨v22, e23, h⟩ := wp_lt h
          refine dl_inc wi_468_99 l3 rfl e23 (fun lv l3 t21 => ?_)
          have l0 := t21 _ _ (by decide) (Or.inl rfl) l0
          have l1 := t21 _ _ (by decide) (Or.inl rfl) l1
          have l2 := t21 _ _ (by decide) (Or.inl rfl) l2
          refine rs_goto (tg := 2) wi_468_102 ⟨by decide, by decide⟩ ?_
          exact h _ l0 l1 l2 l3
        ·
          intro x24 h lv
          have h := wp_inr h
          exact h _
  ·
    refine sum_all ?_ ?_
    ·
      intro x25 h lv
      have h := wp_inl h
      refine rs_pure wi_468_105 rfl ?_
      refine rs_topi (v := 1) (by decide) ?_
      exact rs_iret wi_468_106 wr_468 (nb_n (by decide)) (hQ (1, x25) h)
    ·
      intro x26 h lv
      have h := wp_inr h
      refine rs_pure wi_468_91 rfl ?_
      refine rs_topi (v := 0) (by decide) ?_
      exact rs_iret wi_468_92 wr_468 (nb_n (by decide)) (hQ (0, x26) h)
end D59
