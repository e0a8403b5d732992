/-! THE CODE AS PURE PROGRAMS, 14: by wip/whole/dc.py -/
section D55
variable {sc : Nat × (Nat → Int32)} {fm : Value}
theorem t_231 : ta false 231 3 40 := ⟨rfl, by decide, by decide⟩
theorem tf_174_71 : fo false 174 15 71 (.ref 231) := ⟨_, rfl, rfl, by decide, by decide⟩
theorem wa_15_417 : rz_cn 15 (rx_yn (rt_P sc fm) 417).cls = true := (by decide +kernel : rz_cn 15 (rt_yn 417).cls = true)
theorem wa_15_418 : rz_cn 15 (rx_yn (rt_P sc fm) 418).cls = true := (by decide +kernel : rz_cn 15 (rt_yn 418).cls = true)
theorem wa_15_420 : rz_cn 15 (rx_yn (rt_P sc fm) 420).cls = true := (by decide +kernel : rz_cn 15 (rt_yn 420).cls = true)
theorem wc_419_432 : rx_ct (rt_P sc fm) 419 432 = some (0, 97, 2) := (by decide +kernel : rt_ct 419 432 = some (0, 97, 2))
theorem wc_419_626 : rx_ct (rt_P sc fm) 419 626 = some (0, 417, 1) := (by decide +kernel : rt_ct 419 626 = some (0, 417, 1))
theorem wc_419_629 : rx_ct (rt_P sc fm) 419 629 = some (0, 418, 1) := (by decide +kernel : rt_ct 419 629 = some (0, 418, 1))
theorem wc_419_631 : rx_ct (rt_P sc fm) 419 631 = some (0, 420, 2) := (by decide +kernel : rt_ct 419 631 = some (0, 420, 2))
theorem wf_419_182 : rx_ft (rt_P sc fm) 419 182 = some (15, 48) := (by decide +kernel : rt_ft 419 182 = some (15, 48))
theorem wf_419_185 : rx_ft (rt_P sc fm) 419 185 = some (15, 49) := (by decide +kernel : rt_ft 419 185 = some (15, 49))
theorem wf_419_191 : rx_ft (rt_P sc fm) 419 191 = some (15, 51) := (by decide +kernel : rt_ft 419 191 = some (15, 51))
theorem wf_419_200 : rx_ft (rt_P sc fm) 419 200 = some (15, 54) := (by decide +kernel : rt_ft 419 200 = some (15, 54))
theorem wf_419_243 : rx_ft (rt_P sc fm) 419 243 = some (15, 70) := (by decide +kernel : rt_ft 419 243 = some (15, 70))
theorem wf_419_246 : rx_ft (rt_P sc fm) 419 246 = some (15, 71) := (by decide +kernel : rt_ft 419 246 = some (15, 71))
theorem wf_419_409 : rx_ft (rt_P sc fm) 419 409 = some (15, 13) := (by decide +kernel : rt_ft 419 409 = some (15, 13))
theorem wi_419_0 : ri (rt_P sc fm) 419 0 (.aload_n 0) (1) := ri_of (by decide +kernel) rfl
theorem wi_419_1 : ri (rt_P sc fm) 419 1 (.getfield 246) (4) := ri_of (by decide +kernel) rfl
theorem wi_419_10 : ri (rt_P sc fm) 419 10 (.aload_n 0) (11) := ri_of (by decide +kernel) rfl
theorem wi_419_100 : ri (rt_P sc fm) 419 100 (.iload 4) (102) := ri_of (by decide +kernel) rfl
theorem wi_419_102 : ri (rt_P sc fm) 419 102 (.if_icmp .ne 4) (105) := ri_of (by decide +kernel) rfl
theorem wi_419_105 : ri (rt_P sc fm) 419 105 (.return_) (106) := ri_of (by decide +kernel) rfl
theorem wi_419_106 : ri (rt_P sc fm) 419 106 (.aload_n 2) (107) := ri_of (by decide +kernel) rfl
theorem wi_419_107 : ri (rt_P sc fm) 419 107 (.iload 5) (109) := ri_of (by decide +kernel) rfl
theorem wi_419_109 : ri (rt_P sc fm) 419 109 (.iconst 1) (110) := ri_of (by decide +kernel) rfl
theorem wi_419_11 : ri (rt_P sc fm) 419 11 (.getfield 182) (14) := ri_of (by decide +kernel) rfl
theorem wi_419_110 : ri (rt_P sc fm) 419 110 (.bastore) (111) := ri_of (by decide +kernel) rfl
theorem wi_419_111 : ri (rt_P sc fm) 419 111 (.iload_n 3) (112) := ri_of (by decide +kernel) rfl
theorem wi_419_112 : ri (rt_P sc fm) 419 112 (.iload 5) (114) := ri_of (by decide +kernel) rfl
theorem wi_419_114 : ri (rt_P sc fm) 419 114 (.iadd) (115) := ri_of (by decide +kernel) rfl
theorem wi_419_115 : ri (rt_P sc fm) 419 115 (.istore 6) (117) := ri_of (by decide +kernel) rfl
theorem wi_419_117 : ri (rt_P sc fm) 419 117 (.aload_n 0) (118) := ri_of (by decide +kernel) rfl
theorem wi_419_118 : ri (rt_P sc fm) 419 118 (.getfield 243) (121) := ri_of (by decide +kernel) rfl
theorem wi_419_121 : ri (rt_P sc fm) 419 121 (.iload 6) (123) := ri_of (by decide +kernel) rfl
theorem wi_419_123 : ri (rt_P sc fm) 419 123 (.iaload) (124) := ri_of (by decide +kernel) rfl
theorem wi_419_124 : ri (rt_P sc fm) 419 124 (.aload_n 0) (125) := ri_of (by decide +kernel) rfl
theorem wi_419_125 : ri (rt_P sc fm) 419 125 (.iload 6) (127) := ri_of (by decide +kernel) rfl
theorem wi_419_127 : ri (rt_P sc fm) 419 127 (.invokevirtual 626) (130) := ri_of (by decide +kernel) rfl
theorem wi_419_130 : ri (rt_P sc fm) 419 130 (.isub) (131) := ri_of (by decide +kernel) rfl
theorem wi_419_131 : ri (rt_P sc fm) 419 131 (.istore 7) (133) := ri_of (by decide +kernel) rfl
theorem wi_419_133 : ri (rt_P sc fm) 419 133 (.iload 7) (135) := ri_of (by decide +kernel) rfl
theorem wi_419_135 : ri (rt_P sc fm) 419 135 (.ifCond .lt 17) (138) := ri_of (by decide +kernel) rfl
theorem wi_419_138 : ri (rt_P sc fm) 419 138 (.iload 7) (140) := ri_of (by decide +kernel) rfl
theorem wi_419_14 : ri (rt_P sc fm) 419 14 (.iload_n 1) (15) := ri_of (by decide +kernel) rfl
theorem wi_419_140 : ri (rt_P sc fm) 419 140 (.aload_n 0) (141) := ri_of (by decide +kernel) rfl
theorem wi_419_141 : ri (rt_P sc fm) 419 141 (.iload 6) (143) := ri_of (by decide +kernel) rfl
theorem wi_419_143 : ri (rt_P sc fm) 419 143 (.invokevirtual 629) (146) := ri_of (by decide +kernel) rfl
theorem wi_419_146 : ri (rt_P sc fm) 419 146 (.iadd) (147) := ri_of (by decide +kernel) rfl
theorem wi_419_147 : ri (rt_P sc fm) 419 147 (.bipush 8) (149) := ri_of (by decide +kernel) rfl
theorem wi_419_149 : ri (rt_P sc fm) 419 149 (.if_icmp .le 17) (152) := ri_of (by decide +kernel) rfl
theorem wi_419_15 : ri (rt_P sc fm) 419 15 (.iaload) (16) := ri_of (by decide +kernel) rfl
theorem wi_419_152 : ri (rt_P sc fm) 419 152 (.aload_n 0) (153) := ri_of (by decide +kernel) rfl
theorem wi_419_153 : ri (rt_P sc fm) 419 153 (.bipush 8) (155) := ri_of (by decide +kernel) rfl
theorem wi_419_155 : ri (rt_P sc fm) 419 155 (.aload_n 0) (156) := ri_of (by decide +kernel) rfl
theorem wi_419_156 : ri (rt_P sc fm) 419 156 (.getfield 191) (159) := ri_of (by decide +kernel) rfl
theorem wi_419_159 : ri (rt_P sc fm) 419 159 (.iload 6) (161) := ri_of (by decide +kernel) rfl
theorem wi_419_16 : ri (rt_P sc fm) 419 16 (.istore 4) (18) := ri_of (by decide +kernel) rfl
theorem wi_419_161 : ri (rt_P sc fm) 419 161 (.iaload) (162) := ri_of (by decide +kernel) rfl
theorem wi_419_162 : ri (rt_P sc fm) 419 162 (.invokevirtual 432) (165) := ri_of (by decide +kernel) rfl
theorem wi_419_165 : ri (rt_P sc fm) 419 165 (.return_) (166) := ri_of (by decide +kernel) rfl
theorem wi_419_166 : ri (rt_P sc fm) 419 166 (.iload 7) (168) := ri_of (by decide +kernel) rfl
theorem wi_419_168 : ri (rt_P sc fm) 419 168 (.aload_n 0) (169) := ri_of (by decide +kernel) rfl
theorem wi_419_169 : ri (rt_P sc fm) 419 169 (.iload 6) (171) := ri_of (by decide +kernel) rfl
theorem wi_419_171 : ri (rt_P sc fm) 419 171 (.invokevirtual 629) (174) := ri_of (by decide +kernel) rfl
theorem wi_419_174 : ri (rt_P sc fm) 419 174 (.iadd) (175) := ri_of (by decide +kernel) rfl
theorem wi_419_175 : ri (rt_P sc fm) 419 175 (.istore 7) (177) := ri_of (by decide +kernel) rfl
theorem wi_419_177 : ri (rt_P sc fm) 419 177 (.aload_n 0) (178) := ri_of (by decide +kernel) rfl
theorem wi_419_178 : ri (rt_P sc fm) 419 178 (.getfield 185) (181) := ri_of (by decide +kernel) rfl
theorem wi_419_18 : ri (rt_P sc fm) 419 18 (.iconst 0) (19) := ri_of (by decide +kernel) rfl
theorem wi_419_181 : ri (rt_P sc fm) 419 181 (.iload 6) (183) := ri_of (by decide +kernel) rfl
theorem wi_419_183 : ri (rt_P sc fm) 419 183 (.iaload) (184) := ri_of (by decide +kernel) rfl
theorem wi_419_184 : ri (rt_P sc fm) 419 184 (.bipush 21) (186) := ri_of (by decide +kernel) rfl
theorem wi_419_186 : ri (rt_P sc fm) 419 186 (.if_icmp .eq 52) (189) := ri_of (by decide +kernel) rfl
theorem wi_419_189 : ri (rt_P sc fm) 419 189 (.aload_n 0) (190) := ri_of (by decide +kernel) rfl
theorem wi_419_19 : ri (rt_P sc fm) 419 19 (.istore 5) (21) := ri_of (by decide +kernel) rfl
theorem wi_419_190 : ri (rt_P sc fm) 419 190 (.getfield 185) (193) := ri_of (by decide +kernel) rfl
theorem wi_419_193 : ri (rt_P sc fm) 419 193 (.iload 6) (195) := ri_of (by decide +kernel) rfl
theorem wi_419_195 : ri (rt_P sc fm) 419 195 (.iaload) (196) := ri_of (by decide +kernel) rfl
theorem wi_419_196 : ri (rt_P sc fm) 419 196 (.bipush 27) (198) := ri_of (by decide +kernel) rfl
theorem wi_419_198 : ri (rt_P sc fm) 419 198 (.if_icmp .eq 40) (201) := ri_of (by decide +kernel) rfl
theorem wi_419_201 : ri (rt_P sc fm) 419 201 (.iload 5) (203) := ri_of (by decide +kernel) rfl
theorem wi_419_203 : ri (rt_P sc fm) 419 203 (.iconst 1) (204) := ri_of (by decide +kernel) rfl
theorem wi_419_204 : ri (rt_P sc fm) 419 204 (.iadd) (205) := ri_of (by decide +kernel) rfl
theorem wi_419_205 : ri (rt_P sc fm) 419 205 (.iload 4) (207) := ri_of (by decide +kernel) rfl
theorem wi_419_207 : ri (rt_P sc fm) 419 207 (.if_icmp .ne 19) (210) := ri_of (by decide +kernel) rfl
theorem wi_419_21 : ri (rt_P sc fm) 419 21 (.iload 5) (23) := ri_of (by decide +kernel) rfl
theorem wi_419_210 : ri (rt_P sc fm) 419 210 (.aload_n 0) (211) := ri_of (by decide +kernel) rfl
theorem wi_419_211 : ri (rt_P sc fm) 419 211 (.bipush 8) (213) := ri_of (by decide +kernel) rfl
theorem wi_419_213 : ri (rt_P sc fm) 419 213 (.aload_n 0) (214) := ri_of (by decide +kernel) rfl
theorem wi_419_214 : ri (rt_P sc fm) 419 214 (.getfield 191) (217) := ri_of (by decide +kernel) rfl
theorem wi_419_217 : ri (rt_P sc fm) 419 217 (.iload 6) (219) := ri_of (by decide +kernel) rfl
theorem wi_419_219 : ri (rt_P sc fm) 419 219 (.iaload) (220) := ri_of (by decide +kernel) rfl
theorem wi_419_220 : ri (rt_P sc fm) 419 220 (.invokevirtual 432) (223) := ri_of (by decide +kernel) rfl
theorem wi_419_223 : ri (rt_P sc fm) 419 223 (.goto 15) (226) := ri_of (by decide +kernel) rfl
theorem wi_419_226 : ri (rt_P sc fm) 419 226 (.aload_n 0) (227) := ri_of (by decide +kernel) rfl
theorem wi_419_227 : ri (rt_P sc fm) 419 227 (.iload_n 3) (228) := ri_of (by decide +kernel) rfl
theorem wi_419_228 : ri (rt_P sc fm) 419 228 (.iload 5) (230) := ri_of (by decide +kernel) rfl
theorem wi_419_23 : ri (rt_P sc fm) 419 23 (.iload 4) (25) := ri_of (by decide +kernel) rfl
theorem wi_419_230 : ri (rt_P sc fm) 419 230 (.iadd) (231) := ri_of (by decide +kernel) rfl
theorem wi_419_231 : ri (rt_P sc fm) 419 231 (.iconst 1) (232) := ri_of (by decide +kernel) rfl
theorem wi_419_232 : ri (rt_P sc fm) 419 232 (.iadd) (233) := ri_of (by decide +kernel) rfl
theorem wi_419_233 : ri (rt_P sc fm) 419 233 (.iload 7) (235) := ri_of (by decide +kernel) rfl
theorem wi_419_235 : ri (rt_P sc fm) 419 235 (.invokevirtual 631) (238) := ri_of (by decide +kernel) rfl
theorem wi_419_238 : ri (rt_P sc fm) 419 238 (.aload_n 0) (239) := ri_of (by decide +kernel) rfl
theorem wi_419_239 : ri (rt_P sc fm) 419 239 (.getfield 200) (242) := ri_of (by decide +kernel) rfl
theorem wi_419_242 : ri (rt_P sc fm) 419 242 (.iload 6) (244) := ri_of (by decide +kernel) rfl
theorem wi_419_244 : ri (rt_P sc fm) 419 244 (.iaload) (245) := ri_of (by decide +kernel) rfl
theorem wi_419_245 : ri (rt_P sc fm) 419 245 (.ifCond .lt 18) (248) := ri_of (by decide +kernel) rfl
theorem wi_419_248 : ri (rt_P sc fm) 419 248 (.aload_n 0) (249) := ri_of (by decide +kernel) rfl
theorem wi_419_249 : ri (rt_P sc fm) 419 249 (.iload_n 3) (250) := ri_of (by decide +kernel) rfl
theorem wi_419_25 : ri (rt_P sc fm) 419 25 (.if_icmp .ge 24) (28) := ri_of (by decide +kernel) rfl
theorem wi_419_250 : ri (rt_P sc fm) 419 250 (.aload_n 0) (251) := ri_of (by decide +kernel) rfl
theorem wi_419_251 : ri (rt_P sc fm) 419 251 (.getfield 200) (254) := ri_of (by decide +kernel) rfl
theorem wi_419_254 : ri (rt_P sc fm) 419 254 (.iload 6) (256) := ri_of (by decide +kernel) rfl
theorem wi_419_256 : ri (rt_P sc fm) 419 256 (.iaload) (257) := ri_of (by decide +kernel) rfl
theorem wi_419_257 : ri (rt_P sc fm) 419 257 (.iadd) (258) := ri_of (by decide +kernel) rfl
theorem wi_419_258 : ri (rt_P sc fm) 419 258 (.iload 7) (260) := ri_of (by decide +kernel) rfl
theorem wi_419_260 : ri (rt_P sc fm) 419 260 (.invokevirtual 631) (263) := ri_of (by decide +kernel) rfl
theorem wi_419_263 : ri (rt_P sc fm) 419 263 (.goto (-207)) (266) := ri_of (by decide +kernel) rfl
theorem wi_419_266 : ri (rt_P sc fm) 419 266 (.return_) (267) := ri_of (by decide +kernel) rfl
theorem wi_419_28 : ri (rt_P sc fm) 419 28 (.aload_n 0) (29) := ri_of (by decide +kernel) rfl
theorem wi_419_29 : ri (rt_P sc fm) 419 29 (.getfield 243) (32) := ri_of (by decide +kernel) rfl
theorem wi_419_32 : ri (rt_P sc fm) 419 32 (.iload_n 3) (33) := ri_of (by decide +kernel) rfl
theorem wi_419_33 : ri (rt_P sc fm) 419 33 (.iload 5) (35) := ri_of (by decide +kernel) rfl
theorem wi_419_35 : ri (rt_P sc fm) 419 35 (.iadd) (36) := ri_of (by decide +kernel) rfl
theorem wi_419_36 : ri (rt_P sc fm) 419 36 (.iconst (-1)) (37) := ri_of (by decide +kernel) rfl
theorem wi_419_37 : ri (rt_P sc fm) 419 37 (.iastore) (38) := ri_of (by decide +kernel) rfl
theorem wi_419_38 : ri (rt_P sc fm) 419 38 (.aload_n 2) (39) := ri_of (by decide +kernel) rfl
theorem wi_419_39 : ri (rt_P sc fm) 419 39 (.iload 5) (41) := ri_of (by decide +kernel) rfl
theorem wi_419_4 : ri (rt_P sc fm) 419 4 (.astore_n 2) (5) := ri_of (by decide +kernel) rfl
theorem wi_419_41 : ri (rt_P sc fm) 419 41 (.iconst 0) (42) := ri_of (by decide +kernel) rfl
theorem wi_419_42 : ri (rt_P sc fm) 419 42 (.bastore) (43) := ri_of (by decide +kernel) rfl
theorem wi_419_43 : ri (rt_P sc fm) 419 43 (.iinc 5 1) (46) := ri_of (by decide +kernel) rfl
theorem wi_419_46 : ri (rt_P sc fm) 419 46 (.goto (-25)) (49) := ri_of (by decide +kernel) rfl
theorem wi_419_49 : ri (rt_P sc fm) 419 49 (.aload_n 0) (50) := ri_of (by decide +kernel) rfl
theorem wi_419_5 : ri (rt_P sc fm) 419 5 (.bipush 40) (7) := ri_of (by decide +kernel) rfl
theorem wi_419_50 : ri (rt_P sc fm) 419 50 (.getfield 243) (53) := ri_of (by decide +kernel) rfl
theorem wi_419_53 : ri (rt_P sc fm) 419 53 (.iload_n 3) (54) := ri_of (by decide +kernel) rfl
theorem wi_419_54 : ri (rt_P sc fm) 419 54 (.iconst 0) (55) := ri_of (by decide +kernel) rfl
theorem wi_419_55 : ri (rt_P sc fm) 419 55 (.iastore) (56) := ri_of (by decide +kernel) rfl
theorem wi_419_56 : ri (rt_P sc fm) 419 56 (.aload_n 0) (57) := ri_of (by decide +kernel) rfl
theorem wi_419_57 : ri (rt_P sc fm) 419 57 (.getfield 409) (60) := ri_of (by decide +kernel) rfl
theorem wi_419_60 : ri (rt_P sc fm) 419 60 (.ifCond .ne 206) (63) := ri_of (by decide +kernel) rfl
theorem wi_419_63 : ri (rt_P sc fm) 419 63 (.iconst 0) (64) := ri_of (by decide +kernel) rfl
theorem wi_419_64 : ri (rt_P sc fm) 419 64 (.istore 5) (66) := ri_of (by decide +kernel) rfl
theorem wi_419_66 : ri (rt_P sc fm) 419 66 (.iload 5) (68) := ri_of (by decide +kernel) rfl
theorem wi_419_68 : ri (rt_P sc fm) 419 68 (.iload 4) (70) := ri_of (by decide +kernel) rfl
theorem wi_419_7 : ri (rt_P sc fm) 419 7 (.iload_n 1) (8) := ri_of (by decide +kernel) rfl
theorem wi_419_70 : ri (rt_P sc fm) 419 70 (.if_icmp .ge 28) (73) := ri_of (by decide +kernel) rfl
theorem wi_419_73 : ri (rt_P sc fm) 419 73 (.aload_n 0) (74) := ri_of (by decide +kernel) rfl
theorem wi_419_74 : ri (rt_P sc fm) 419 74 (.getfield 243) (77) := ri_of (by decide +kernel) rfl
theorem wi_419_77 : ri (rt_P sc fm) 419 77 (.iload_n 3) (78) := ri_of (by decide +kernel) rfl
theorem wi_419_78 : ri (rt_P sc fm) 419 78 (.iload 5) (80) := ri_of (by decide +kernel) rfl
theorem wi_419_8 : ri (rt_P sc fm) 419 8 (.imul) (9) := ri_of (by decide +kernel) rfl
theorem wi_419_80 : ri (rt_P sc fm) 419 80 (.iadd) (81) := ri_of (by decide +kernel) rfl
theorem wi_419_81 : ri (rt_P sc fm) 419 81 (.iaload) (82) := ri_of (by decide +kernel) rfl
theorem wi_419_82 : ri (rt_P sc fm) 419 82 (.ifCond .lt 10) (85) := ri_of (by decide +kernel) rfl
theorem wi_419_85 : ri (rt_P sc fm) 419 85 (.aload_n 2) (86) := ri_of (by decide +kernel) rfl
theorem wi_419_86 : ri (rt_P sc fm) 419 86 (.iload 5) (88) := ri_of (by decide +kernel) rfl
theorem wi_419_88 : ri (rt_P sc fm) 419 88 (.baload) (89) := ri_of (by decide +kernel) rfl
theorem wi_419_89 : ri (rt_P sc fm) 419 89 (.ifCond .eq 9) (92) := ri_of (by decide +kernel) rfl
theorem wi_419_9 : ri (rt_P sc fm) 419 9 (.istore_n 3) (10) := ri_of (by decide +kernel) rfl
theorem wi_419_92 : ri (rt_P sc fm) 419 92 (.iinc 5 1) (95) := ri_of (by decide +kernel) rfl
theorem wi_419_95 : ri (rt_P sc fm) 419 95 (.goto (-29)) (98) := ri_of (by decide +kernel) rfl
theorem wi_419_98 : ri (rt_P sc fm) 419 98 (.iload 5) (100) := ri_of (by decide +kernel) rfl
theorem wm_417 : rx_ml (rt_P sc fm) 417 = 2 := (by decide +kernel : rt_ml 417 = 2)
theorem wm_418 : rx_ml (rt_P sc fm) 418 = 2 := (by decide +kernel : rt_ml 418 = 2)
theorem wm_420 : rx_ml (rt_P sc fm) 420 = 3 := (by decide +kernel : rt_ml 420 = 3)
theorem wr_419 : rx_rt (rt_P sc fm) 419 = none := (by decide +kernel : rt_rt 419 = none)
/-- MarkHouseModel.findDepths(I)V -/
def d_419 (n : Nat) (a1 : Int32) (c : cS) : Option (cS) :=
  lt ((40 * a1) : Int32) (fun v3 =>
  if ib a1 96 then
  lt ((c.1 210 (ix a1)) : Int32) (fun v7 =>
  Option.bind (whl (R := (cS)) (fun s10 : Int32 × cS =>
    if v7 ≤ s10.1 then
      some (.inr s10.2)
    else
      if ib (v3 + s10.1) 3840 then
      lt (pI s10.2 230 (ix (v3 + s10.1)) (-1)) (fun c12 =>
      if ib s10.1 40 then
      lt (pI c12 231 (ix s10.1) (vp_nar .boolean 0)) (fun c15 =>
      lt (s10.1 + 1 : Int32) (fun v18 =>
      some (.inl (v18, c15))))
      else none)
      else none) n (0, c))
  (fun x20 : cS =>
    if ib v3 3840 then
    lt (pI x20 230 (ix v3) 0) (fun c22 =>
    Option.bind (whl (R := (cS) ⊕ (cS) ⊕ (Int32 × cS)) (fun s24 : cS =>
      if (s24.1 174 13) = 0 then
        Option.bind (whl (R := (Int32)) (fun s26 : Int32 =>
          if v7 ≤ s26 then
            some (.inr s26)
          else
            if ib (v3 + s26) 3840 then
            jn (fun p28 : Unit =>
              lt (s26 + 1 : Int32) (fun v30 =>
              some (.inl v30)))
            (fun j92 =>
            if (s24.1 230 (ix (v3 + s26))) < 0 then
              j92 ()
            else
              if ib s26 40 then
              if (s24.1 231 (ix s26)) = 0 then
                some (.inr s26)
              else
                j92 ()
              else none)
            else none) n 0)
        (fun x33 : Int32 =>
          if x33 = v7 then
            some (.inr (.inr (.inl s24)))
          else
            if ib x33 40 then
            lt (pI s24 231 (ix x33) (vp_nar .boolean 1)) (fun c35 =>
            lt ((v3 + x33) : Int32) (fun v38 =>
            if ib v38 3840 then
            Option.bind (d_417 n v38 c35) (fun v41 =>
            lt (((c35.1 230 (ix v38)) - v41) : Int32) (fun v43 =>
            if v43 < 0 then
              some (.inr (.inr (.inr (v38, c35))))
            else
              Option.bind (d_418 n v38 c35) (fun v45 =>
              if (v43 + v45) ≤ 8 then
                Option.bind (d_418 n v38 c35) (fun v46 =>
                lt ((v43 + v46) : Int32) (fun v48 =>
                if ib v38 3840 then
                jn (fun p51 : cS =>
                  if ib v38 3840 then
                  jn (fun p53 : cS =>
                    some (.inl p53))
                  (fun j263 =>
                  if (p51.1 216 (ix v38)) < 0 then
                    j263 p51
                  else
                    if ib v38 3840 then
                    Option.bind (d_420 n (v3 + (p51.1 216 (ix v38))) v48 p51) (fun r55 =>
                    j263 r55)
                    else none)
                  else none)
                (fun j238 =>
                if (c35.1 211 (ix v38)) = 21 then
                  j238 c35
                else
                  if ib v38 3840 then
                  if (c35.1 211 (ix v38)) = 27 then
                    j238 c35
                  else
                    if (x33 + 1) = v7 then
                      if ib v38 3840 then
                      Option.bind (d_97 n 8 (c35.1 213 (ix v38)) c35) (fun r59 =>
                      j238 r59)
                      else none
                    else
                      Option.bind (d_420 n ((v3 + x33) + 1) v48 c35) (fun r57 =>
                      j238 r57)
                  else none)
                else none))
              else
                some (.inr (.inr (.inr (v38, c35)))))))
            else none))
            else none)
      else
        some (.inr (.inl s24))) n c22)
    (Sum.elim (fun x60 : cS =>
      some x60)
    (Sum.elim (fun x61 : cS =>
      some x61)
    (fun x62 : Int32 × cS =>
      if ib x62.1 3840 then
      Option.bind (d_97 n 8 (x62.2.1 213 (ix x62.1)) x62.2) (fun r64 =>
      some r64)
      else none))))
    else none))
  else none)
set_option maxRecDepth 100000 in
set_option maxHeartbeats 4000000 in
theorem sp_419 {F Lo n : Nat} {a1 : Int32} {c y : cS} {w : cW} {K : cS → Prop} {Q : ((Option Value) ⊕ String) → List va_E → Prop} (hw : rOK fm w) (hF : 2 ≤ F) (hLo : 44 ≤ Lo)  (h : wp (d_419 n a1 c) K) (hQ : ∀ r, K r → Q (.inl none) (hq false r y w)) : rs (rt_P sc fm) 419 F Lo 0 [(0, .ref 174), (1, .int a1)] [] (hq false c y w) Q := by
  unfold d_419 at h
  obtain ⟨lv, elv⟩ : ∃ lv : rx_L, lv = [(0, .ref 174), (1, .int a1)] := ⟨_, rfl⟩
  rw [← elv]
  have l0 : rx_ld lv 0 = some (.ref 174) := by rw [elv]; rfl
  have l1 : rx_ld lv 1 = some (.int a1) := by rw [elv]; rfl
  refine rs_aldn wi_419_0 l0 ?_
  refine dq_gr wi_419_1 wf_419_246 tf_174_71 ?_
  refine dl_astn wi_419_4 rfl (fun lv l2 t1 => ?_)
  have l0 := t1 _ _ (by decide) (Or.inl rfl) l0
  have l1 := t1 _ _ (by decide) (Or.inl rfl) l1
  refine rs_pure wi_419_5 rfl ?_
  refine rs_topi (v := 40) (by decide) ?_
  refine rs_ildn wi_419_7 l1 ?_
  refine rs_pure wi_419_8 rfl ?_
  obtain ⟨v3, e4, h⟩ := wp_lt h
  refine rs_topi e4 ?_
  refine dl_istn wi_419_9 rfl (fun lv l3 t2 => ?_)
  have l0 := t2 _ _ (by decide) (Or.inl rfl) l0
  have l1 := t2 _ _ (by decide) (Or.inl rfl) l1
  have l2 := t2 _ _ (by decide) (Or.inl rfl) l2
  refine rs_aldn wi_419_10 l0 ?_
  refine dq_gr wi_419_11 wf_419_182 tf_174_48 ?_
  refine rs_ildn wi_419_14 l1 ?_
  obtain ⟨g5, h⟩ := wp_gd h
  refine dq_iald wi_419_15 t_210 g5 ?_
  obtain ⟨v7, e8, h⟩ := wp_lt h
  refine rs_topi e8 ?_
  refine dl_ist wi_419_16 rfl (fun lv l4 t6 => ?_)
  have l0 := t6 _ _ (by decide) (Or.inl rfl) l0
  have l2 := t6 _ _ (by decide) (Or.inl rfl) l2
  have l3 := t6 _ _ (by decide) (Or.inl rfl) l3
  refine rs_pure wi_419_18 rfl ?_
  refine rs_topi (v := 0) (by decide) ?_
  refine dl_ist wi_419_19 rfl (fun lv l5 t9 => ?_)
  have l0 := t9 _ _ (by decide) (Or.inl rfl) l0
  have l2 := t9 _ _ (by decide) (Or.inl rfl) l2
  have l3 := t9 _ _ (by decide) (Or.inl rfl) l3
  have l4 := t9 _ _ (by decide) (Or.inl rfl) l4
  refine whl_ex (A := fun s10 : Int32 × cS => ∀ lv, rx_ld lv 0 = some (.ref 174) → rx_ld lv 2 = some (.ref 231) → rx_ld lv 3 = some (.int v3) → rx_ld lv 4 = some (.int v7) → rx_ld lv 5 = some (.int s10.1) → rs (rt_P sc fm) 419 F Lo 21 lv [] (hq false s10.2 y w) Q) (B := (fun x20 : cS => ∀ lv, rx_ld lv 0 = some (.ref 174) → rx_ld lv 2 = some (.ref 231) → rx_ld lv 3 = some (.int v3) → rx_ld lv 4 = some (.int v7) → rs (rt_P sc fm) 419 F Lo 49 lv [] (hq false x20 y w) Q)) ?_ ?_ _ _ (wp_bind h) _ l0 l2 l3 l4 l5
  · intro s10 h lv l0 l2 l3 l4 l5
    refine rs_ild wi_419_21 l5 ?_
    refine rs_ild wi_419_23 l4 ?_
    refine rs_icge (tg := 49) wi_419_25 ⟨by decide, by decide⟩ (fun q => ?_) (fun q => ?_)
    ·
      have h := wp_pos h q
      exact h _ l0 l2 l3 l4
    ·
      have h := wp_neg h q
      refine rs_aldn wi_419_28 l0 ?_
      refine dq_gr wi_419_29 wf_419_243 tf_174_70 ?_
      refine rs_ildn wi_419_32 l3 ?_
      refine rs_ild wi_419_33 l5 ?_
      refine rs_pure wi_419_35 rfl ?_
      refine rs_pure wi_419_36 rfl ?_
      refine rs_topi (v := (-1)) (by decide) ?_
      obtain ⟨g11, h⟩ := wp_gd h
      obtain ⟨c12, e13, h⟩ := wp_lt h
      refine dq_iast wi_419_37 t_230 g11 e13 ?_
      refine rs_aldn wi_419_38 l2 ?_
      refine rs_ild wi_419_39 l5 ?_
      refine rs_pure wi_419_41 rfl ?_
      refine rs_topi (v := 0) (by decide) ?_
      obtain ⟨g14, h⟩ := wp_gd h
      obtain ⟨c15, e16, h⟩ := wp_lt h
      refine dq_zast wi_419_42 t_231 g14 e16 ?_
      obtain ⟨v18, e19, h⟩ := wp_lt h
      refine dl_inc wi_419_43 l5 rfl e19 (fun lv l5 t17 => ?_)
      have l0 := t17 _ _ (by decide) (Or.inl rfl) l0
      have l2 := t17 _ _ (by decide) (Or.inl rfl) l2
      have l3 := t17 _ _ (by decide) (Or.inl rfl) l3
      have l4 := t17 _ _ (by decide) (Or.inl rfl) l4
      refine rs_goto (tg := 21) wi_419_46 ⟨by decide, by decide⟩ ?_
      exact h _ l0 l2 l3 l4 l5
  ·
    intro x20 h lv l0 l2 l3 l4
    refine rs_aldn wi_419_49 l0 ?_
    refine dq_gr wi_419_50 wf_419_243 tf_174_70 ?_
    refine rs_ildn wi_419_53 l3 ?_
    refine rs_pure wi_419_54 rfl ?_
    refine rs_topi (v := 0) (by decide) ?_
    obtain ⟨g21, h⟩ := wp_gd h
    obtain ⟨c22, e23, h⟩ := wp_lt h
    refine dq_iast wi_419_55 t_230 g21 e23 ?_
    refine whl_ex (A := fun s24 : cS => ∀ lv, rx_ld lv 0 = some (.ref 174) → rx_ld lv 2 = some (.ref 231) → rx_ld lv 3 = some (.int v3) → rx_ld lv 4 = some (.int v7) → rs (rt_P sc fm) 419 F Lo 56 lv [] (hq false s24 y w) Q) (B := (Sum.elim (fun x60 : cS => ∀ lv, rs (rt_P sc fm) 419 F Lo 266 lv [] (hq false x60 y w) Q) (Sum.elim (fun x61 : cS => ∀ lv, rs (rt_P sc fm) 419 F Lo 105 lv [] (hq false x61 y w) Q) (fun x62 : Int32 × cS => ∀ lv, rx_ld lv 0 = some (.ref 174) → rx_ld lv 6 = some (.int x62.1) → rs (rt_P sc fm) 419 F Lo 152 lv [] (hq false x62.2 y w) Q)))) ?_ ?_ _ _ (wp_bind h) _ l0 l2 l3 l4
    · intro s24 h lv l0 l2 l3 l4
      refine rs_aldn wi_419_56 l0 ?_
      refine dq_gi wi_419_57 wf_419_409 tf_174_13 ?_
      refine rs_ifne (tg := 266) wi_419_60 ⟨by decide, by decide⟩ (fun q => ?_) (fun q => ?_)
      ·
        have h := wp_neg h q
        exact h _
      ·
        have h := wp_pos h q
        refine rs_pure wi_419_63 rfl ?_
        refine rs_topi (v := 0) (by decide) ?_
        refine dl_ist wi_419_64 rfl (fun lv l5 t25 => ?_)
        have l0 := t25 _ _ (by decide) (Or.inl rfl) l0
        have l2 := t25 _ _ (by decide) (Or.inl rfl) l2
        have l3 := t25 _ _ (by decide) (Or.inl rfl) l3
        have l4 := t25 _ _ (by decide) (Or.inl rfl) l4
        refine whl_ex (A := fun s26 : Int32 => ∀ lv, rx_ld lv 0 = some (.ref 174) → rx_ld lv 2 = some (.ref 231) → rx_ld lv 3 = some (.int v3) → rx_ld lv 4 = some (.int v7) → rx_ld lv 5 = some (.int s26) → rs (rt_P sc fm) 419 F Lo 66 lv [] (hq false s24 y w) Q) (B := (fun x33 : Int32 => ∀ lv, rx_ld lv 0 = some (.ref 174) → rx_ld lv 2 = some (.ref 231) → rx_ld lv 3 = some (.int v3) → rx_ld lv 4 = some (.int v7) → rx_ld lv 5 = some (.int x33) → rs (rt_P sc fm) 419 F Lo 98 lv [] (hq false s24 y w) Q)) ?_ ?_ _ _ (wp_bind h) _ l0 l2 l3 l4 l5
        · intro s26 h lv l0 l2 l3 l4 l5
          refine rs_ild wi_419_66 l5 ?_
          refine rs_ild wi_419_68 l4 ?_
          refine rs_icge (tg := 98) wi_419_70 ⟨by decide, by decide⟩ (fun q => ?_) (fun q => ?_)
          ·
            have h := wp_pos h q
            exact h _ l0 l2 l3 l4 l5
          ·
            have h := wp_neg h q
            refine rs_aldn wi_419_73 l0 ?_
            refine dq_gr wi_419_74 wf_419_243 tf_174_70 ?_
            refine rs_ildn wi_419_77 l3 ?_
            refine rs_ild wi_419_78 l5 ?_
            refine rs_pure wi_419_80 rfl ?_
            obtain ⟨g27, h⟩ := wp_gd h
            refine dq_iald wi_419_81 t_230 g27 ?_
            refine wp_jn (B := fun p28 : Unit => ∀ lv, rx_ld lv 0 = some (.ref 174) → rx_ld lv 2 = some (.ref 231) → rx_ld lv 3 = some (.int v3) → rx_ld lv 4 = some (.int v7) → rx_ld lv 5 = some (.int s26) → rs (rt_P sc fm) 419 F Lo 92 lv [] (hq false s24 y w) Q) h (fun p28 h lv l0 l2 l3 l4 l5 => ?_) (fun j92 hj92 h => ?_)
            ·
              obtain ⟨v30, e31, h⟩ := wp_lt h
              refine dl_inc wi_419_92 l5 rfl e31 (fun lv l5 t29 => ?_)
              have l0 := t29 _ _ (by decide) (Or.inl rfl) l0
              have l2 := t29 _ _ (by decide) (Or.inl rfl) l2
              have l3 := t29 _ _ (by decide) (Or.inl rfl) l3
              have l4 := t29 _ _ (by decide) (Or.inl rfl) l4
              refine rs_goto (tg := 66) wi_419_95 ⟨by decide, by decide⟩ ?_
              exact h _ l0 l2 l3 l4 l5
            refine rs_iflt (tg := 92) wi_419_82 ⟨by decide, by decide⟩ (fun q => ?_) (fun q => ?_)
            ·
              have h := wp_pos h q
              exact hj92 _ h _ l0 l2 l3 l4 l5
            ·
              have h := wp_neg h q
              refine rs_aldn wi_419_85 l2 ?_
              refine rs_ild wi_419_86 l5 ?_
              obtain ⟨g32, h⟩ := wp_gd h
              refine dq_zald wi_419_88 t_231 g32 ?_
              refine rs_ifeq (tg := 98) wi_419_89 ⟨by decide, by decide⟩ (fun q => ?_) (fun q => ?_)
              ·
                have h := wp_pos h q
                exact h _ l0 l2 l3 l4 l5
              ·
                have h := wp_neg h q
                exact hj92 _ h _ l0 l2 l3 l4 l5
        ·
          intro x33 h lv l0 l2 l3 l4 l5
          refine rs_ild wi_419_98 l5 ?_
          refine rs_ild wi_419_100 l4 ?_
          refine rs_icne (tg := 106) wi_419_102 ⟨by decide, by decide⟩ (fun q => ?_) (fun q => ?_)
          ·
            have h := wp_neg h q
            refine rs_aldn wi_419_106 l2 ?_
            refine rs_ild wi_419_107 l5 ?_
            refine rs_pure wi_419_109 rfl ?_
            refine rs_topi (v := 1) (by decide) ?_
            obtain ⟨g34, h⟩ := wp_gd h
            obtain ⟨c35, e36, h⟩ := wp_lt h
            refine dq_zast wi_419_110 t_231 g34 e36 ?_
            refine rs_ildn wi_419_111 l3 ?_
            refine rs_ild wi_419_112 l5 ?_
            refine rs_pure wi_419_114 rfl ?_
            obtain ⟨v38, e39, h⟩ := wp_lt h
            refine rs_topi e39 ?_
            refine dl_ist wi_419_115 rfl (fun lv l6 t37 => ?_)
            have l0 := t37 _ _ (by decide) (Or.inl rfl) l0
            have l2 := t37 _ _ (by decide) (Or.inl rfl) l2
            have l3 := t37 _ _ (by decide) (Or.inl rfl) l3
            have l4 := t37 _ _ (by decide) (Or.inl rfl) l4
            have l5 := t37 _ _ (by decide) (Or.inl rfl) l5
            refine rs_aldn wi_419_117 l0 ?_
            refine dq_gr wi_419_118 wf_419_243 tf_174_70 ?_
            refine rs_ild wi_419_121 l6 ?_
            obtain ⟨g40, h⟩ := wp_gd h
            refine dq_iald wi_419_123 t_230 g40 ?_
            refine rs_aldn wi_419_124 l0 ?_
            refine rs_ild wi_419_125 l6 ?_
            refine rs_V wi_419_127 wc_419_626 rfl (dq_isa tf_174_0 wa_15_417) (Nat.le_trans (by decide) hF) (ml_le wm_417 (Nat.le_trans (by decide) hLo)) rfl (sp_417 hw (Nat.le_trans (by decide : 0 ≤ 2 - 1) (Nat.sub_le_sub_right hF 1)) (ml_sub wm_417 (Nat.le_trans (by decide : 0 ≤ 44 - 21) (Nat.sub_le_sub_right hLo 21))) (wp_bind h) (fun v41 h => rs_back1 ?_))
            refine rs_pure wi_419_130 rfl ?_
            obtain ⟨v43, e44, h⟩ := wp_lt h
            refine rs_topi e44 ?_
            refine dl_ist wi_419_131 rfl (fun lv l7 t42 => ?_)
            have l0 := t42 _ _ (by decide) (Or.inl rfl) l0
            have l2 := t42 _ _ (by decide) (Or.inl rfl) l2
            have l3 := t42 _ _ (by decide) (Or.inl rfl) l3
            have l4 := t42 _ _ (by decide) (Or.inl rfl) l4
            have l5 := t42 _ _ (by decide) (Or.inl rfl) l5
            have l6 := t42 _ _ (by decide) (Or.inl rfl) l6
            refine rs_ild wi_419_133 l7 ?_
            refine rs_iflt (tg := 152) wi_419_135 ⟨by decide, by decide⟩ (fun q => ?_) (fun q => ?_)
            ·
              have h := wp_pos h q
              exact h _ l0 l6
            ·
              have h := wp_neg h q
              refine rs_ild wi_419_138 l7 ?_
              refine rs_aldn wi_419_140 l0 ?_
              refine rs_ild wi_419_141 l6 ?_
              refine rs_V wi_419_143 wc_419_629 rfl (dq_isa tf_174_0 wa_15_418) (Nat.le_trans (by decide) hF) (ml_le wm_418 (Nat.le_trans (by decide) hLo)) rfl (sp_418 hw (Nat.le_trans (by decide : 0 ≤ 2 - 1) (Nat.sub_le_sub_right hF 1)) (ml_sub wm_418 (Nat.le_trans (by decide : 0 ≤ 44 - 21) (Nat.sub_le_sub_right hLo 21))) (wp_bind h) (fun v45 h => rs_back1 ?_))
              refine rs_pure wi_419_146 rfl ?_
              refine rs_pure wi_419_147 rfl ?_
              refine rs_topi (v := 8) (by decide) ?_
              refine rs_icle (tg := 166) wi_419_149 ⟨by decide, by decide⟩ (fun q => ?_) (fun q => ?_)
              ·
                have h := wp_pos h q
                refine rs_ild wi_419_166 l7 ?_
                refine rs_aldn wi_419_168 l0 ?_
                refine rs_ild wi_419_169 l6 ?_
                refine rs_V wi_419_171 wc_419_629 rfl (dq_isa tf_174_0 wa_15_418) (Nat.le_trans (by decide) hF) (ml_le wm_418 (Nat.le_trans (by decide) hLo)) rfl (sp_418 hw (Nat.le_trans (by decide : 0 ≤ 2 - 1) (Nat.sub_le_sub_right hF 1)) (ml_sub wm_418 (Nat.le_trans (by decide : 0 ≤ 44 - 21) (Nat.sub_le_sub_right hLo 21))) (wp_bind h) (fun v46 h => rs_back1 ?_))
                refine rs_pure wi_419_174 rfl ?_
                obtain ⟨v48, e49, h⟩ := wp_lt h
                refine rs_topi e49 ?_
                refine dl_ist wi_419_175 rfl (fun lv l7 t47 => ?_)
                have l0 := t47 _ _ (by decide) (Or.inl rfl) l0
                have l2 := t47 _ _ (by decide) (Or.inl rfl) l2
                have l3 := t47 _ _ (by decide) (Or.inl rfl) l3
                have l4 := t47 _ _ (by decide) (Or.inl rfl) l4
                have l5 := t47 _ _ (by decide) (Or.inl rfl) l5
                have l6 := t47 _ _ (by decide) (Or.inl rfl) l6
                refine rs_aldn wi_419_177 l0 ?_
                refine dq_gr wi_419_178 wf_419_185 tf_174_49 ?_
                refine rs_ild wi_419_181 l6 ?_
                obtain ⟨g50, h⟩ := wp_gd h
                refine dq_iald wi_419_183 t_211 g50 ?_
                refine rs_pure wi_419_184 rfl ?_
                refine rs_topi (v := 21) (by decide) ?_
                refine wp_jn (B := fun p51 : cS => ∀ lv, rx_ld lv 0 = some (.ref 174) → rx_ld lv 2 = some (.ref 231) → rx_ld lv 3 = some (.int v3) → rx_ld lv 4 = some (.int v7) → rx_ld lv 6 = some (.int v38) → rx_ld lv 7 = some (.int v48) → rs (rt_P sc fm) 419 F Lo 238 lv [] (hq false p51 y w) Q) h (fun p51 h lv l0 l2 l3 l4 l6 l7 => ?_) (fun j238 hj238 h => ?_)
                ·
                  refine rs_aldn wi_419_238 l0 ?_
                  refine dq_gr wi_419_239 wf_419_200 tf_174_54 ?_
                  refine rs_ild wi_419_242 l6 ?_
                  obtain ⟨g52, h⟩ := wp_gd h
                  refine dq_iald wi_419_244 t_216 g52 ?_
                  refine wp_jn (B := fun p53 : cS => ∀ lv, rx_ld lv 0 = some (.ref 174) → rx_ld lv 2 = some (.ref 231) → rx_ld lv 3 = some (.int v3) → rx_ld lv 4 = some (.int v7) → rs (rt_P sc fm) 419 F Lo 263 lv [] (hq false p53 y w) Q) h (fun p53 h lv l0 l2 l3 l4 => ?_) (fun j263 hj263 h => ?_)
                  ·
                    refine rs_goto (tg := 56) wi_419_263 ⟨by decide, by decide⟩ ?_
                    exact h _ l0 l2 l3 l4
                  refine rs_iflt (tg := 263) wi_419_245 ⟨by decide, by decide⟩ (fun q => ?_) (fun q => ?_)
                  ·
                    have h := wp_pos h q
                    exact hj263 _ h _ l0 l2 l3 l4
                  ·
                    have h := wp_neg h q
                    refine rs_aldn wi_419_248 l0 ?_
                    refine rs_ildn wi_419_249 l3 ?_
                    refine rs_aldn wi_419_250 l0 ?_
                    refine dq_gr wi_419_251 wf_419_200 tf_174_54 ?_
                    refine rs_ild wi_419_254 l6 ?_
                    obtain ⟨g54, h⟩ := wp_gd h
                    refine dq_iald wi_419_256 t_216 g54 ?_
                    refine rs_pure wi_419_257 rfl ?_
                    refine rs_ild wi_419_258 l7 ?_
                    refine rs_V wi_419_260 wc_419_631 rfl (dq_isa tf_174_0 wa_15_420) (Nat.le_trans (by decide) hF) (ml_le wm_420 (Nat.le_trans (by decide) hLo)) rfl (sp_420 hw (Nat.le_trans (by decide : 1 ≤ 2 - 1) (Nat.sub_le_sub_right hF 1)) (ml_sub wm_420 (Nat.le_trans (by decide : 22 ≤ 44 - 22) (Nat.sub_le_sub_right hLo 22))) (wp_bind h) (fun r55 h => rs_back0 ?_))
                    exact hj263 _ h _ l0 l2 l3 l4
                refine rs_iceq (tg := 238) wi_419_186 ⟨by decide, by decide⟩ (fun q => ?_) (fun q => ?_)
                ·
                  have h := wp_pos h q
                  exact hj238 _ h _ l0 l2 l3 l4 l6 l7
                ·
                  have h := wp_neg h q
                  refine rs_aldn wi_419_189 l0 ?_
                  refine dq_gr wi_419_190 wf_419_185 tf_174_49 ?_
                  refine rs_ild wi_419_193 l6 ?_
                  obtain ⟨g56, h⟩ := wp_gd h
                  refine dq_iald wi_419_195 t_211 g56 ?_
                  refine rs_pure wi_419_196 rfl ?_
                  refine rs_topi (v := 27) (by decide) ?_
                  refine rs_iceq (tg := 238) wi_419_198 ⟨by decide, by decide⟩ (fun q => ?_) (fun q => ?_)
                  ·
                    have h := wp_pos h q
                    exact hj238 _ h _ l0 l2 l3 l4 l6 l7
                  ·
                    have h := wp_neg h q
                    refine rs_ild wi_419_201 l5 ?_
                    refine rs_pure wi_419_203 rfl ?_
                    refine rs_topi (v := 1) (by decide) ?_
                    refine rs_pure wi_419_204 rfl ?_
                    refine rs_ild wi_419_205 l4 ?_
                    refine rs_icne (tg := 226) wi_419_207 ⟨by decide, by decide⟩ (fun q => ?_) (fun q => ?_)
                    ·
                      have h := wp_neg h q
                      refine rs_aldn wi_419_226 l0 ?_
                      refine rs_ildn wi_419_227 l3 ?_
                      refine rs_ild wi_419_228 l5 ?_
                      refine rs_pure wi_419_230 rfl ?_
                      refine rs_pure wi_419_231 rfl ?_
                      refine rs_topi (v := 1) (by decide) ?_
                      refine rs_pure wi_419_232 rfl ?_
                      refine rs_ild wi_419_233 l7 ?_
                      refine rs_V wi_419_235 wc_419_631 rfl (dq_isa tf_174_0 wa_15_420) (Nat.le_trans (by decide) hF) (ml_le wm_420 (Nat.le_trans (by decide) hLo)) rfl (sp_420 hw (Nat.le_trans (by decide : 1 ≤ 2 - 1) (Nat.sub_le_sub_right hF 1)) (ml_sub wm_420 (Nat.le_trans (by decide : 22 ≤ 44 - 22) (Nat.sub_le_sub_right hLo 22))) (wp_bind h) (fun r57 h => rs_back0 ?_))
                      exact hj238 _ h _ l0 l2 l3 l4 l6 l7
                    ·
                      have h := wp_pos h q
                      refine rs_aldn wi_419_210 l0 ?_
                      refine rs_pure wi_419_211 rfl ?_
                      refine rs_topi (v := 8) (by decide) ?_
                      refine rs_aldn wi_419_213 l0 ?_
                      refine dq_gr wi_419_214 wf_419_191 tf_174_51 ?_
                      refine rs_ild wi_419_217 l6 ?_
                      obtain ⟨g58, h⟩ := wp_gd h
                      refine dq_iald wi_419_219 t_213 g58 ?_
                      refine rs_V wi_419_220 wc_419_432 rfl (dq_isa tf_174_0 wa_15_97) (Nat.le_trans (by decide) hF) (ml_le wm_97 (Nat.le_trans (by decide) hLo)) rfl (sp_97 hw (Nat.le_trans (by decide : 0 ≤ 2 - 1) (Nat.sub_le_sub_right hF 1)) (ml_sub wm_97 (Nat.le_trans (by decide : 0 ≤ 44 - 22) (Nat.sub_le_sub_right hLo 22))) (wp_bind h) (fun r59 h => rs_back0 ?_))
                      refine rs_goto (tg := 238) wi_419_223 ⟨by decide, by decide⟩ ?_
                      exact hj238 _ h _ l0 l2 l3 l4 l6 l7
              ·
                have h := wp_neg h q
                exact h _ l0 l6
          ·
            have h := wp_pos h q
            exact h _
    ·
      refine sum_all ?_ ?_
      ·
        intro x60 h lv
        have h := wp_inl h
        exact rs_vret wi_419_266 wr_419 (hQ x60 h)
      refine sum_all ?_ ?_
      ·
        intro x61 h lv
        have h := wp_inr h
        have h := wp_inl h
        exact rs_vret wi_419_105 wr_419 (hQ x61 h)
      ·
        intro x62 h lv l0 l6
        have h := wp_inr h
        have h := wp_inr h
        refine rs_aldn wi_419_152 l0 ?_
        refine rs_pure wi_419_153 rfl ?_
        refine rs_topi (v := 8) (by decide) ?_
        refine rs_aldn wi_419_155 l0 ?_
        refine dq_gr wi_419_156 wf_419_191 tf_174_51 ?_
        refine rs_ild wi_419_159 l6 ?_
        obtain ⟨g63, h⟩ := wp_gd h
        refine dq_iald wi_419_161 t_213 g63 ?_
        refine rs_V wi_419_162 wc_419_432 rfl (dq_isa tf_174_0 wa_15_97) (Nat.le_trans (by decide) hF) (ml_le wm_97 (Nat.le_trans (by decide) hLo)) rfl (sp_97 hw (Nat.le_trans (by decide : 0 ≤ 2 - 1) (Nat.sub_le_sub_right hF 1)) (ml_sub wm_97 (Nat.le_trans (by decide : 0 ≤ 44 - 22) (Nat.sub_le_sub_right hLo 22))) (wp_bind h) (fun r64 h => rs_back0 ?_))
        exact rs_vret wi_419_165 wr_419 (hQ r64 h)
theorem t_235 : ta false 235 0 4800 := ⟨rfl, by decide, by decide⟩
theorem tf_174_14 : fo false 174 15 14 (.int 0) := ⟨_, rfl, rfl, by decide, by decide⟩
theorem tf_174_84 : fo false 174 15 84 (.ref 235) := ⟨_, rfl, rfl, by decide, by decide⟩
theorem wa_15_104 : rz_cn 15 (rx_yn (rt_P sc fm) 104).cls = true := (by decide +kernel : rz_cn 15 (rt_yn 104).cls = true)
theorem wa_15_133 : rz_cn 15 (rx_yn (rt_P sc fm) 133).cls = true := (by decide +kernel : rz_cn 15 (rt_yn 133).cls = true)
theorem wa_15_415 : rz_cn 15 (rx_yn (rt_P sc fm) 415).cls = true := (by decide +kernel : rz_cn 15 (rt_yn 415).cls = true)
theorem wa_15_419 : rz_cn 15 (rx_yn (rt_P sc fm) 419).cls = true := (by decide +kernel : rz_cn 15 (rt_yn 419).cls = true)
theorem wa_15_99 : rz_cn 15 (rx_yn (rt_P sc fm) 99).cls = true := (by decide +kernel : rz_cn 15 (rt_yn 99).cls = true)
theorem wc_106_614 : rx_ct (rt_P sc fm) 106 614 = some (0, 105, 1) := (by decide +kernel : rt_ct 106 614 = some (0, 105, 1))
theorem wc_106_637 : rx_ct (rt_P sc fm) 106 637 = some (0, 133, 0) := (by decide +kernel : rt_ct 106 637 = some (0, 133, 0))
theorem wc_106_640 : rx_ct (rt_P sc fm) 106 640 = some (0, 99, 1) := (by decide +kernel : rt_ct 106 640 = some (0, 99, 1))
theorem wc_106_643 : rx_ct (rt_P sc fm) 106 643 = some (0, 104, 0) := (by decide +kernel : rt_ct 106 643 = some (0, 104, 0))
theorem wc_106_646 : rx_ct (rt_P sc fm) 106 646 = some (0, 415, 0) := (by decide +kernel : rt_ct 106 646 = some (0, 415, 0))
theorem wc_106_649 : rx_ct (rt_P sc fm) 106 649 = some (0, 419, 1) := (by decide +kernel : rt_ct 106 649 = some (0, 419, 1))
theorem wf_106_113 : rx_ft (rt_P sc fm) 106 113 = some (15, 22) := (by decide +kernel : rt_ft 106 113 = some (15, 22))
theorem wf_106_258 : rx_ft (rt_P sc fm) 106 258 = some (15, 84) := (by decide +kernel : rt_ft 106 258 = some (15, 84))
theorem wf_106_359 : rx_ft (rt_P sc fm) 106 359 = some (15, 2) := (by decide +kernel : rt_ft 106 359 = some (15, 2))
theorem wf_106_409 : rx_ft (rt_P sc fm) 106 409 = some (15, 13) := (by decide +kernel : rt_ft 106 409 = some (15, 13))
theorem wf_106_447 : rx_ft (rt_P sc fm) 106 447 = some (15, 15) := (by decide +kernel : rt_ft 106 447 = some (15, 15))
theorem wf_106_456 : rx_ft (rt_P sc fm) 106 456 = some (15, 37) := (by decide +kernel : rt_ft 106 456 = some (15, 37))
theorem wi_106_0 : ri (rt_P sc fm) 106 0 (.aload_n 0) (1) := ri_of (by decide +kernel) rfl
theorem wi_106_1 : ri (rt_P sc fm) 106 1 (.getfield 359) (4) := ri_of (by decide +kernel) rfl
theorem wi_106_10 : ri (rt_P sc fm) 106 10 (.aload_n 0) (11) := ri_of (by decide +kernel) rfl
theorem wi_106_100 : ri (rt_P sc fm) 106 100 (.ifCond .eq 7) (103) := ri_of (by decide +kernel) rfl
theorem wi_106_103 : ri (rt_P sc fm) 106 103 (.iconst 1) (104) := ri_of (by decide +kernel) rfl
theorem wi_106_104 : ri (rt_P sc fm) 106 104 (.goto 4) (107) := ri_of (by decide +kernel) rfl
theorem wi_106_107 : ri (rt_P sc fm) 106 107 (.iconst 0) (108) := ri_of (by decide +kernel) rfl
theorem wi_106_108 : ri (rt_P sc fm) 106 108 (.putfield 356) (111) := ri_of (by decide +kernel) rfl
theorem wi_106_11 : ri (rt_P sc fm) 106 11 (.iconst 0) (12) := ri_of (by decide +kernel) rfl
theorem wi_106_111 : ri (rt_P sc fm) 106 111 (.aload_n 0) (112) := ri_of (by decide +kernel) rfl
theorem wi_106_112 : ri (rt_P sc fm) 106 112 (.getfield 409) (115) := ri_of (by decide +kernel) rfl
theorem wi_106_115 : ri (rt_P sc fm) 106 115 (.ifCond .eq 5) (118) := ri_of (by decide +kernel) rfl
theorem wi_106_118 : ri (rt_P sc fm) 106 118 (.iconst 0) (119) := ri_of (by decide +kernel) rfl
theorem wi_106_119 : ri (rt_P sc fm) 106 119 (.ireturn) (120) := ri_of (by decide +kernel) rfl
theorem wi_106_12 : ri (rt_P sc fm) 106 12 (.putfield 409) (15) := ri_of (by decide +kernel) rfl
theorem wi_106_120 : ri (rt_P sc fm) 106 120 (.aload_n 0) (121) := ri_of (by decide +kernel) rfl
theorem wi_106_121 : ri (rt_P sc fm) 106 121 (.iconst 1) (122) := ri_of (by decide +kernel) rfl
theorem wi_106_122 : ri (rt_P sc fm) 106 122 (.putfield 634) (125) := ri_of (by decide +kernel) rfl
theorem wi_106_125 : ri (rt_P sc fm) 106 125 (.iconst 0) (126) := ri_of (by decide +kernel) rfl
theorem wi_106_126 : ri (rt_P sc fm) 106 126 (.istore_n 2) (127) := ri_of (by decide +kernel) rfl
theorem wi_106_127 : ri (rt_P sc fm) 106 127 (.iload_n 2) (128) := ri_of (by decide +kernel) rfl
theorem wi_106_128 : ri (rt_P sc fm) 106 128 (.aload_n 0) (129) := ri_of (by decide +kernel) rfl
theorem wi_106_129 : ri (rt_P sc fm) 106 129 (.getfield 447) (132) := ri_of (by decide +kernel) rfl
theorem wi_106_132 : ri (rt_P sc fm) 106 132 (.if_icmp .ge 42) (135) := ri_of (by decide +kernel) rfl
theorem wi_106_135 : ri (rt_P sc fm) 106 135 (.iconst 0) (136) := ri_of (by decide +kernel) rfl
theorem wi_106_136 : ri (rt_P sc fm) 106 136 (.istore_n 3) (137) := ri_of (by decide +kernel) rfl
theorem wi_106_137 : ri (rt_P sc fm) 106 137 (.iload_n 3) (138) := ri_of (by decide +kernel) rfl
theorem wi_106_138 : ri (rt_P sc fm) 106 138 (.sipush 1200) (141) := ri_of (by decide +kernel) rfl
theorem wi_106_141 : ri (rt_P sc fm) 106 141 (.if_icmp .ge 27) (144) := ri_of (by decide +kernel) rfl
theorem wi_106_144 : ri (rt_P sc fm) 106 144 (.aload_n 0) (145) := ri_of (by decide +kernel) rfl
theorem wi_106_145 : ri (rt_P sc fm) 106 145 (.getfield 258) (148) := ri_of (by decide +kernel) rfl
theorem wi_106_148 : ri (rt_P sc fm) 106 148 (.sipush 1200) (151) := ri_of (by decide +kernel) rfl
theorem wi_106_15 : ri (rt_P sc fm) 106 15 (.aload_n 0) (16) := ri_of (by decide +kernel) rfl
theorem wi_106_151 : ri (rt_P sc fm) 106 151 (.iload_n 2) (152) := ri_of (by decide +kernel) rfl
theorem wi_106_152 : ri (rt_P sc fm) 106 152 (.imul) (153) := ri_of (by decide +kernel) rfl
theorem wi_106_153 : ri (rt_P sc fm) 106 153 (.iload_n 3) (154) := ri_of (by decide +kernel) rfl
theorem wi_106_154 : ri (rt_P sc fm) 106 154 (.iadd) (155) := ri_of (by decide +kernel) rfl
theorem wi_106_155 : ri (rt_P sc fm) 106 155 (.aload_n 0) (156) := ri_of (by decide +kernel) rfl
theorem wi_106_156 : ri (rt_P sc fm) 106 156 (.getfield 113) (159) := ri_of (by decide +kernel) rfl
theorem wi_106_159 : ri (rt_P sc fm) 106 159 (.iload_n 2) (160) := ri_of (by decide +kernel) rfl
theorem wi_106_16 : ri (rt_P sc fm) 106 16 (.iconst 0) (17) := ri_of (by decide +kernel) rfl
theorem wi_106_160 : ri (rt_P sc fm) 106 160 (.iaload) (161) := ri_of (by decide +kernel) rfl
theorem wi_106_161 : ri (rt_P sc fm) 106 161 (.iastore) (162) := ri_of (by decide +kernel) rfl
theorem wi_106_162 : ri (rt_P sc fm) 106 162 (.iinc 3 1) (165) := ri_of (by decide +kernel) rfl
theorem wi_106_165 : ri (rt_P sc fm) 106 165 (.goto (-28)) (168) := ri_of (by decide +kernel) rfl
theorem wi_106_168 : ri (rt_P sc fm) 106 168 (.iinc 2 1) (171) := ri_of (by decide +kernel) rfl
theorem wi_106_17 : ri (rt_P sc fm) 106 17 (.putfield 412) (20) := ri_of (by decide +kernel) rfl
theorem wi_106_171 : ri (rt_P sc fm) 106 171 (.goto (-44)) (174) := ri_of (by decide +kernel) rfl
theorem wi_106_174 : ri (rt_P sc fm) 106 174 (.aload_n 0) (175) := ri_of (by decide +kernel) rfl
theorem wi_106_175 : ri (rt_P sc fm) 106 175 (.getfield 456) (178) := ri_of (by decide +kernel) rfl
theorem wi_106_178 : ri (rt_P sc fm) 106 178 (.ireturn) (179) := ri_of (by decide +kernel) rfl
theorem wi_106_20 : ri (rt_P sc fm) 106 20 (.aload_n 0) (21) := ri_of (by decide +kernel) rfl
theorem wi_106_21 : ri (rt_P sc fm) 106 21 (.iconst 0) (22) := ri_of (by decide +kernel) rfl
theorem wi_106_22 : ri (rt_P sc fm) 106 22 (.putfield 415) (25) := ri_of (by decide +kernel) rfl
theorem wi_106_25 : ri (rt_P sc fm) 106 25 (.aload_n 0) (26) := ri_of (by decide +kernel) rfl
theorem wi_106_26 : ri (rt_P sc fm) 106 26 (.iconst 0) (27) := ri_of (by decide +kernel) rfl
theorem wi_106_27 : ri (rt_P sc fm) 106 27 (.putfield 634) (30) := ri_of (by decide +kernel) rfl
theorem wi_106_30 : ri (rt_P sc fm) 106 30 (.aload_n 0) (31) := ri_of (by decide +kernel) rfl
theorem wi_106_31 : ri (rt_P sc fm) 106 31 (.invokevirtual 637) (34) := ri_of (by decide +kernel) rfl
theorem wi_106_34 : ri (rt_P sc fm) 106 34 (.aload_n 0) (35) := ri_of (by decide +kernel) rfl
theorem wi_106_35 : ri (rt_P sc fm) 106 35 (.iload_n 1) (36) := ri_of (by decide +kernel) rfl
theorem wi_106_36 : ri (rt_P sc fm) 106 36 (.invokevirtual 640) (39) := ri_of (by decide +kernel) rfl
theorem wi_106_39 : ri (rt_P sc fm) 106 39 (.aload_n 0) (40) := ri_of (by decide +kernel) rfl
theorem wi_106_4 : ri (rt_P sc fm) 106 4 (.istore_n 1) (5) := ri_of (by decide +kernel) rfl
theorem wi_106_40 : ri (rt_P sc fm) 106 40 (.getfield 409) (43) := ri_of (by decide +kernel) rfl
theorem wi_106_43 : ri (rt_P sc fm) 106 43 (.ifCond .ne 7) (46) := ri_of (by decide +kernel) rfl
theorem wi_106_46 : ri (rt_P sc fm) 106 46 (.aload_n 0) (47) := ri_of (by decide +kernel) rfl
theorem wi_106_47 : ri (rt_P sc fm) 106 47 (.invokevirtual 643) (50) := ri_of (by decide +kernel) rfl
theorem wi_106_5 : ri (rt_P sc fm) 106 5 (.aload_n 0) (6) := ri_of (by decide +kernel) rfl
theorem wi_106_50 : ri (rt_P sc fm) 106 50 (.aload_n 0) (51) := ri_of (by decide +kernel) rfl
theorem wi_106_51 : ri (rt_P sc fm) 106 51 (.getfield 409) (54) := ri_of (by decide +kernel) rfl
theorem wi_106_54 : ri (rt_P sc fm) 106 54 (.ifCond .ne 7) (57) := ri_of (by decide +kernel) rfl
theorem wi_106_57 : ri (rt_P sc fm) 106 57 (.aload_n 0) (58) := ri_of (by decide +kernel) rfl
theorem wi_106_58 : ri (rt_P sc fm) 106 58 (.invokevirtual 646) (61) := ri_of (by decide +kernel) rfl
theorem wi_106_6 : ri (rt_P sc fm) 106 6 (.iconst 0) (7) := ri_of (by decide +kernel) rfl
theorem wi_106_61 : ri (rt_P sc fm) 106 61 (.iconst 0) (62) := ri_of (by decide +kernel) rfl
theorem wi_106_62 : ri (rt_P sc fm) 106 62 (.istore_n 2) (63) := ri_of (by decide +kernel) rfl
theorem wi_106_63 : ri (rt_P sc fm) 106 63 (.iload_n 2) (64) := ri_of (by decide +kernel) rfl
theorem wi_106_64 : ri (rt_P sc fm) 106 64 (.bipush 96) (66) := ri_of (by decide +kernel) rfl
theorem wi_106_66 : ri (rt_P sc fm) 106 66 (.if_icmp .ge 29) (69) := ri_of (by decide +kernel) rfl
theorem wi_106_69 : ri (rt_P sc fm) 106 69 (.aload_n 0) (70) := ri_of (by decide +kernel) rfl
theorem wi_106_7 : ri (rt_P sc fm) 106 7 (.putfield 359) (10) := ri_of (by decide +kernel) rfl
theorem wi_106_70 : ri (rt_P sc fm) 106 70 (.getfield 409) (73) := ri_of (by decide +kernel) rfl
theorem wi_106_73 : ri (rt_P sc fm) 106 73 (.ifCond .ne 22) (76) := ri_of (by decide +kernel) rfl
theorem wi_106_76 : ri (rt_P sc fm) 106 76 (.aload_n 0) (77) := ri_of (by decide +kernel) rfl
theorem wi_106_77 : ri (rt_P sc fm) 106 77 (.iload_n 2) (78) := ri_of (by decide +kernel) rfl
theorem wi_106_78 : ri (rt_P sc fm) 106 78 (.invokevirtual 614) (81) := ri_of (by decide +kernel) rfl
theorem wi_106_81 : ri (rt_P sc fm) 106 81 (.ifCond .eq 8) (84) := ri_of (by decide +kernel) rfl
theorem wi_106_84 : ri (rt_P sc fm) 106 84 (.aload_n 0) (85) := ri_of (by decide +kernel) rfl
theorem wi_106_85 : ri (rt_P sc fm) 106 85 (.iload_n 2) (86) := ri_of (by decide +kernel) rfl
theorem wi_106_86 : ri (rt_P sc fm) 106 86 (.invokevirtual 649) (89) := ri_of (by decide +kernel) rfl
theorem wi_106_89 : ri (rt_P sc fm) 106 89 (.iinc 2 1) (92) := ri_of (by decide +kernel) rfl
theorem wi_106_92 : ri (rt_P sc fm) 106 92 (.goto (-29)) (95) := ri_of (by decide +kernel) rfl
theorem wi_106_95 : ri (rt_P sc fm) 106 95 (.aload_n 0) (96) := ri_of (by decide +kernel) rfl
theorem wi_106_96 : ri (rt_P sc fm) 106 96 (.aload_n 0) (97) := ri_of (by decide +kernel) rfl
theorem wi_106_97 : ri (rt_P sc fm) 106 97 (.getfield 409) (100) := ri_of (by decide +kernel) rfl
theorem wm_104 : rx_ml (rt_P sc fm) 104 = 2 := (by decide +kernel : rt_ml 104 = 2)
theorem wm_133 : rx_ml (rt_P sc fm) 133 = 1 := (by decide +kernel : rt_ml 133 = 1)
theorem wm_415 : rx_ml (rt_P sc fm) 415 = 3 := (by decide +kernel : rt_ml 415 = 3)
theorem wm_419 : rx_ml (rt_P sc fm) 419 = 8 := (by decide +kernel : rt_ml 419 = 8)
theorem wm_99 : rx_ml (rt_P sc fm) 99 = 8 := (by decide +kernel : rt_ml 99 = 8)
theorem wp_106_356 : rx_pt (rt_P sc fm) 106 356 = some (15, 0, .int) := (by decide +kernel : rt_pt 106 356 = some (15, 0, .int))
theorem wp_106_359 : rx_pt (rt_P sc fm) 106 359 = some (15, 2, .int) := (by decide +kernel : rt_pt 106 359 = some (15, 2, .int))
theorem wp_106_409 : rx_pt (rt_P sc fm) 106 409 = some (15, 13, .boolean) := (by decide +kernel : rt_pt 106 409 = some (15, 13, .boolean))
theorem wp_106_412 : rx_pt (rt_P sc fm) 106 412 = some (15, 11, .int) := (by decide +kernel : rt_pt 106 412 = some (15, 11, .int))
theorem wp_106_415 : rx_pt (rt_P sc fm) 106 415 = some (15, 12, .int) := (by decide +kernel : rt_pt 106 415 = some (15, 12, .int))
theorem wp_106_634 : rx_pt (rt_P sc fm) 106 634 = some (15, 14, .boolean) := (by decide +kernel : rt_pt 106 634 = some (15, 14, .boolean))
theorem wr_106 : rx_rt (rt_P sc fm) 106 = (some FieldType.int) := (by decide +kernel : rt_rt 106 = (some FieldType.int))
/-- MarkHouseModel.compile()I -/
def d_106 (n : Nat)  (c : cS) : Option (Int32 × cS) :=
  lt ((c.1 174 2) : Int32) (fun v2 =>
  lt (pI c 174 2 0) (fun c4 =>
  lt (pI c4 174 13 0) (fun c6 =>
  lt (pI c6 174 11 0) (fun c8 =>
  lt (pI c8 174 12 0) (fun c10 =>
  lt (pI c10 174 14 0) (fun c12 =>
  Option.bind (d_133 n c12) (fun r14 =>
  Option.bind (d_99 n v2 r14) (fun r15 =>
  jn (fun p16 : cS =>
    jn (fun p17 : cS =>
      Option.bind (whl (R := (cS)) (fun s19 : Int32 × cS =>
        if 96 ≤ s19.1 then
          some (.inr s19.2)
        else
          if (s19.2.1 174 13) = 0 then
            Option.bind (d_105 n s19.1 s19.2) (fun v20 =>
            jn (fun p21 : cS =>
              lt (s19.1 + 1 : Int32) (fun v23 =>
              some (.inl (v23, p21))))
            (fun j89 =>
            if v20 = 0 then
              j89 s19.2
            else
              Option.bind (d_419 n s19.1 s19.2) (fun r25 =>
              j89 r25)))
          else
            some (.inr s19.2)) n (0, p17))
      (fun x26 : cS =>
        jn (fun p27 : Int32 =>
          lt (pI x26 174 0 p27) (fun c28 =>
          if (c28.1 174 13) = 0 then
            lt (pI c28 174 14 1) (fun c30 =>
            Option.bind (whl (R := (cS)) (fun s33 : Int32 × cS =>
              if (s33.2.1 174 15) ≤ s33.1 then
                some (.inr s33.2)
              else
                Option.bind (whl (R := (cS)) (fun s35 : Int32 × cS =>
                  if 1200 ≤ s35.1 then
                    some (.inr s35.2)
                  else
                    if ib s33.1 4 then
                    if ib ((1200 * s33.1) + s35.1) 4800 then
                    lt (pI s35.2 235 (ix ((1200 * s33.1) + s35.1)) (s35.2.1 187 (ix s33.1))) (fun c38 =>
                    lt (s35.1 + 1 : Int32) (fun v41 =>
                    some (.inl (v41, c38))))
                    else none
                    else none) n (0, s33.2))
                (fun x43 : cS =>
                  lt (s33.1 + 1 : Int32) (fun v45 =>
                  some (.inl (v45, x43))))) n (0, c30))
            (fun x47 : cS =>
              some ((x47.1 174 37), x47)))
          else
            some (0, c28)))
        (fun j108 =>
        if (x26.1 174 13) = 0 then
          j108 0
        else
          j108 1)))
    (fun j61 =>
    if (p16.1 174 13) = 0 then
      Option.bind (d_415 n p16) (fun r48 =>
      j61 r48)
    else
      j61 p16))
  (fun j50 =>
  if (r15.1 174 13) = 0 then
    Option.bind (d_104 n r15) (fun r49 =>
    j50 r49)
  else
    j50 r15)))))))))
set_option maxRecDepth 100000 in
set_option maxHeartbeats 4000000 in
theorem sp_106 {F Lo n : Nat}  {c y : cS} {w : cW} {K : Int32 × cS → Prop} {Q : ((Option Value) ⊕ String) → List va_E → Prop} (hw : rOK fm w) (hF : 12 ≤ F) (hLo : 304 ≤ Lo)  (h : wp (d_106 n  c) K) (hQ : ∀ r, K r → Q (.inl (some (.int r.1))) (hq false r.2 y w)) : rs (rt_P sc fm) 106 F Lo 0 [(0, .ref 174)] [] (hq false c y w) Q := by
  unfold d_106 at h
  obtain ⟨lv, elv⟩ : ∃ lv : rx_L, lv = [(0, .ref 174)] := ⟨_, rfl⟩
  rw [← elv]
  have l0 : rx_ld lv 0 = some (.ref 174) := by rw [elv]; rfl
  refine rs_aldn wi_106_0 l0 ?_
  refine dq_gi wi_106_1 wf_106_359 tf_174_2 ?_
  obtain ⟨v2, e3, h⟩ := wp_lt h
  refine rs_topi e3 ?_
  refine dl_istn wi_106_4 rfl (fun lv l1 t1 => ?_)
  have l0 := t1 _ _ (by decide) (Or.inl rfl) l0
  refine rs_aldn wi_106_5 l0 ?_
  refine rs_pure wi_106_6 rfl ?_
  refine rs_topi (v := 0) (by decide) ?_
  obtain ⟨c4, e5, h⟩ := wp_lt h
  refine dq_pi wi_106_7 wp_106_359 tf_174_2 rfl rfl e5 ?_
  refine rs_aldn wi_106_10 l0 ?_
  refine rs_pure wi_106_11 rfl ?_
  refine rs_topi (v := 0) (by decide) ?_
  obtain ⟨c6, e7, h⟩ := wp_lt h
  refine dq_pi wi_106_12 wp_106_409 tf_174_13 (nb_n (by decide)) (nb_f (by decide)) e7 ?_
  refine rs_aldn wi_106_15 l0 ?_
  refine rs_pure wi_106_16 rfl ?_
  refine rs_topi (v := 0) (by decide) ?_
  obtain ⟨c8, e9, h⟩ := wp_lt h
  refine dq_pi wi_106_17 wp_106_412 tf_174_11 rfl rfl e9 ?_
  refine rs_aldn wi_106_20 l0 ?_
  refine rs_pure wi_106_21 rfl ?_
  refine rs_topi (v := 0) (by decide) ?_
  obtain ⟨c10, e11, h⟩ := wp_lt h
  refine dq_pi wi_106_22 wp_106_415 tf_174_12 rfl rfl e11 ?_
  refine rs_aldn wi_106_25 l0 ?_
  refine rs_pure wi_106_26 rfl ?_
  refine rs_topi (v := 0) (by decide) ?_
  obtain ⟨c12, e13, h⟩ := wp_lt h
  refine dq_pi wi_106_27 wp_106_634 tf_174_14 (nb_n (by decide)) (nb_f (by decide)) e13 ?_
  refine rs_aldn wi_106_30 l0 ?_
  refine rs_V wi_106_31 wc_106_637 rfl (dq_isa tf_174_0 wa_15_133) (Nat.le_trans (by decide) hF) (ml_le wm_133 (Nat.le_trans (by decide) hLo)) rfl (sp_133 hw (Nat.le_trans (by decide : 0 ≤ 12 - 1) (Nat.sub_le_sub_right hF 1)) (ml_sub wm_133 (Nat.le_trans (by decide : 0 ≤ 304 - 20) (Nat.sub_le_sub_right hLo 20))) (wp_bind h) (fun r14 h => rs_back0 ?_))
  refine rs_aldn wi_106_34 l0 ?_
  refine rs_ildn wi_106_35 l1 ?_
  refine rs_V wi_106_36 wc_106_640 rfl (dq_isa tf_174_0 wa_15_99) (Nat.le_trans (by decide) hF) (ml_le wm_99 (Nat.le_trans (by decide) hLo)) rfl (sp_99 hw (Nat.le_trans (by decide : 6 ≤ 12 - 1) (Nat.sub_le_sub_right hF 1)) (ml_sub wm_99 (Nat.le_trans (by decide : 131 ≤ 304 - 27) (Nat.sub_le_sub_right hLo 27))) (wp_bind h) (fun r15 h => rs_back0 ?_))
  refine rs_aldn wi_106_39 l0 ?_
  refine dq_gi wi_106_40 wf_106_409 tf_174_13 ?_
  refine wp_jn (B := fun p16 : cS => ∀ lv, rx_ld lv 0 = some (.ref 174) → rs (rt_P sc fm) 106 F Lo 50 lv [] (hq false p16 y w) Q) h (fun p16 h lv l0 => ?_) (fun j50 hj50 h => ?_)
  ·
    refine rs_aldn wi_106_50 l0 ?_
    refine dq_gi wi_106_51 wf_106_409 tf_174_13 ?_
    refine wp_jn (B := fun p17 : cS => ∀ lv, rx_ld lv 0 = some (.ref 174) → rs (rt_P sc fm) 106 F Lo 61 lv [] (hq false p17 y w) Q) h (fun p17 h lv l0 => ?_) (fun j61 hj61 h => ?_)
    ·
      refine rs_pure wi_106_61 rfl ?_
      refine rs_topi (v := 0) (by decide) ?_
      refine dl_istn wi_106_62 rfl (fun lv l2 t18 => ?_)
      have l0 := t18 _ _ (by decide) (Or.inl rfl) l0
      refine whl_ex (A := fun s19 : Int32 × cS => ∀ lv, rx_ld lv 0 = some (.ref 174) → rx_ld lv 2 = some (.int s19.1) → rs (rt_P sc fm) 106 F Lo 63 lv [] (hq false s19.2 y w) Q) (B := (fun x26 : cS => ∀ lv, rx_ld lv 0 = some (.ref 174) → rs (rt_P sc fm) 106 F Lo 95 lv [] (hq false x26 y w) Q)) ?_ ?_ _ _ (wp_bind h) _ l0 l2
      · intro s19 h lv l0 l2
        refine rs_ildn wi_106_63 l2 ?_
        refine rs_pure wi_106_64 rfl ?_
        refine rs_topi (v := 96) (by decide) ?_
        refine rs_icge (tg := 95) wi_106_66 ⟨by decide, by decide⟩ (fun q => ?_) (fun q => ?_)
        ·
          have h := wp_pos h q
          exact h _ l0
        ·
          have h := wp_neg h q
          refine rs_aldn wi_106_69 l0 ?_
          refine dq_gi wi_106_70 wf_106_409 tf_174_13 ?_
          refine rs_ifne (tg := 95) wi_106_73 ⟨by decide, by decide⟩ (fun q => ?_) (fun q => ?_)
          ·
            have h := wp_neg h q
            exact h _ l0
          ·
            have h := wp_pos h q
            refine rs_aldn wi_106_76 l0 ?_
            refine rs_ildn wi_106_77 l2 ?_
            refine rs_V wi_106_78 wc_106_614 rfl (dq_isa tf_174_0 wa_15_105) (Nat.le_trans (by decide) hF) (ml_le wm_105 (Nat.le_trans (by decide) hLo)) rfl (sp_105 hw (Nat.le_trans (by decide : 0 ≤ 12 - 1) (Nat.sub_le_sub_right hF 1)) (ml_sub wm_105 (Nat.le_trans (by decide : 0 ≤ 304 - 21) (Nat.sub_le_sub_right hLo 21))) (wp_bind h) (fun v20 h => rs_back1 ?_))
            refine wp_jn (B := fun p21 : cS => ∀ lv, rx_ld lv 0 = some (.ref 174) → rx_ld lv 2 = some (.int s19.1) → rs (rt_P sc fm) 106 F Lo 89 lv [] (hq false p21 y w) Q) h (fun p21 h lv l0 l2 => ?_) (fun j89 hj89 h => ?_)
            ·
              obtain ⟨v23, e24, h⟩ := wp_lt h
              refine dl_inc wi_106_89 l2 rfl e24 (fun lv l2 t22 => ?_)
              have l0 := t22 _ _ (by decide) (Or.inl rfl) l0
              refine rs_goto (tg := 63) wi_106_92 ⟨by decide, by decide⟩ ?_
              exact h _ l0 l2
            refine rs_ifeq (tg := 89) wi_106_81 ⟨by decide, by decide⟩ (fun q => ?_) (fun q => ?_)
            ·
              have h := wp_pos h q
              exact hj89 _ h _ l0 l2
            ·
              have h := wp_neg h q
              refine rs_aldn wi_106_84 l0 ?_
              refine rs_ildn wi_106_85 l2 ?_
              refine rs_V wi_106_86 wc_106_649 rfl (dq_isa tf_174_0 wa_15_419) (Nat.le_trans (by decide) hF) (ml_le wm_419 (Nat.le_trans (by decide) hLo)) rfl (sp_419 hw (Nat.le_trans (by decide : 2 ≤ 12 - 1) (Nat.sub_le_sub_right hF 1)) (ml_sub wm_419 (Nat.le_trans (by decide : 44 ≤ 304 - 27) (Nat.sub_le_sub_right hLo 27))) (wp_bind h) (fun r25 h => rs_back0 ?_))
              exact hj89 _ h _ l0 l2
      ·
        intro x26 h lv l0
        refine rs_aldn wi_106_95 l0 ?_
        refine rs_aldn wi_106_96 l0 ?_
        refine dq_gi wi_106_97 wf_106_409 tf_174_13 ?_
        refine wp_jn (B := fun p27 : Int32 => ∀ lv, rx_ld lv 0 = some (.ref 174) → rs (rt_P sc fm) 106 F Lo 108 lv [.int p27, .ref 174] (hq false x26 y w) Q) h (fun p27 h lv l0 => ?_) (fun j108 hj108 h => ?_)
        ·
          obtain ⟨c28, e29, h⟩ := wp_lt h
          refine dq_pi wi_106_108 wp_106_356 tf_174_0 rfl rfl e29 ?_
          refine rs_aldn wi_106_111 l0 ?_
          refine dq_gi wi_106_112 wf_106_409 tf_174_13 ?_
          refine rs_ifeq (tg := 120) wi_106_115 ⟨by decide, by decide⟩ (fun q => ?_) (fun q => ?_)
          ·
            have h := wp_pos h q
            refine rs_aldn wi_106_120 l0 ?_
            refine rs_pure wi_106_121 rfl ?_
            refine rs_topi (v := 1) (by decide) ?_
            obtain ⟨c30, e31, h⟩ := wp_lt h
            refine dq_pi wi_106_122 wp_106_634 tf_174_14 (nb_n (by decide)) (nb_f (by decide)) e31 ?_
            refine rs_pure wi_106_125 rfl ?_
            refine rs_topi (v := 0) (by decide) ?_
            refine dl_istn wi_106_126 rfl (fun lv l2 t32 => ?_)
            have l0 := t32 _ _ (by decide) (Or.inl rfl) l0
            refine whl_ex (A := fun s33 : Int32 × cS => ∀ lv, rx_ld lv 0 = some (.ref 174) → rx_ld lv 2 = some (.int s33.1) → rs (rt_P sc fm) 106 F Lo 127 lv [] (hq false s33.2 y w) Q) (B := (fun x47 : cS => ∀ lv, rx_ld lv 0 = some (.ref 174) → rs (rt_P sc fm) 106 F Lo 174 lv [] (hq false x47 y w) Q)) ?_ ?_ _ _ (wp_bind h) _ l0 l2
            · intro s33 h lv l0 l2
              refine rs_ildn wi_106_127 l2 ?_
              refine rs_aldn wi_106_128 l0 ?_
              refine dq_gi wi_106_129 wf_106_447 tf_174_15 ?_
              refine rs_icge (tg := 174) wi_106_132 ⟨by decide, by decide⟩ (fun q => ?_) (fun q => ?_)
              ·
                have h := wp_pos h q
                exact h _ l0
              ·
                have h := wp_neg h q
                refine rs_pure wi_106_135 rfl ?_
                refine rs_topi (v := 0) (by decide) ?_
                refine dl_istn wi_106_136 rfl (fun lv l3 t34 => ?_)
                have l0 := t34 _ _ (by decide) (Or.inl rfl) l0
                have l2 := t34 _ _ (by decide) (Or.inl rfl) l2
                refine whl_ex (A := fun s35 : Int32 × cS => ∀ lv, rx_ld lv 0 = some (.ref 174) → rx_ld lv 2 = some (.int s33.1) → rx_ld lv 3 = some (.int s35.1) → rs (rt_P sc fm) 106 F Lo 137 lv [] (hq false s35.2 y w) Q) (B := (fun x43 : cS => ∀ lv, rx_ld lv 0 = some (.ref 174) → rx_ld lv 2 = some (.int s33.1) → rs (rt_P sc fm) 106 F Lo 168 lv [] (hq false x43 y w) Q)) ?_ ?_ _ _ (wp_bind h) _ l0 l2 l3
                · intro s35 h lv l0 l2 l3
                  refine rs_ildn wi_106_137 l3 ?_
                  refine rs_pure wi_106_138 rfl ?_
                  refine rs_topi (v := 1200) (by decide) ?_
                  refine rs_icge (tg := 168) wi_106_141 ⟨by decide, by decide⟩ (fun q => ?_) (fun q => ?_)
                  ·
                    have h := wp_pos h q
                    exact h _ l0 l2
                  ·
                    have h := wp_neg h q
                    refine rs_aldn wi_106_144 l0 ?_
                    refine dq_gr wi_106_145 wf_106_258 tf_174_84 ?_
                    refine rs_pure wi_106_148 rfl ?_
                    refine rs_topi (v := 1200) (by decide) ?_
                    refine rs_ildn wi_106_151 l2 ?_
                    refine rs_pure wi_106_152 rfl ?_
                    refine rs_ildn wi_106_153 l3 ?_
                    refine rs_pure wi_106_154 rfl ?_
                    refine rs_aldn wi_106_155 l0 ?_
                    refine dq_gr wi_106_156 wf_106_113 tf_174_22 ?_
                    refine rs_ildn wi_106_159 l2 ?_
                    obtain ⟨g36, h⟩ := wp_gd h
                    refine dq_iald wi_106_160 t_187 g36 ?_
                    obtain ⟨g37, h⟩ := wp_gd h
                    obtain ⟨c38, e39, h⟩ := wp_lt h
                    refine dq_iast wi_106_161 t_235 g37 e39 ?_
                    obtain ⟨v41, e42, h⟩ := wp_lt h
                    refine dl_inc wi_106_162 l3 rfl e42 (fun lv l3 t40 => ?_)
                    have l0 := t40 _ _ (by decide) (Or.inl rfl) l0
                    have l2 := t40 _ _ (by decide) (Or.inl rfl) l2
                    refine rs_goto (tg := 137) wi_106_165 ⟨by decide, by decide⟩ ?_
                    exact h _ l0 l2 l3
                ·
                  intro x43 h lv l0 l2
                  obtain ⟨v45, e46, h⟩ := wp_lt h
                  refine dl_inc wi_106_168 l2 rfl e46 (fun lv l2 t44 => ?_)
                  have l0 := t44 _ _ (by decide) (Or.inl rfl) l0
                  refine rs_goto (tg := 127) wi_106_171 ⟨by decide, by decide⟩ ?_
                  exact h _ l0 l2
            ·
              intro x47 h lv l0
              refine rs_aldn wi_106_174 l0 ?_
              refine dq_gi wi_106_175 wf_106_456 tf_174_37 ?_
              exact rs_iret wi_106_178 wr_106 rfl (hQ ((x47.1 174 37), x47) h)
          ·
            have h := wp_neg h q
            refine rs_pure wi_106_118 rfl ?_
            refine rs_topi (v := 0) (by decide) ?_
            exact rs_iret wi_106_119 wr_106 rfl (hQ (0, c28) h)
        refine rs_ifeq (tg := 107) wi_106_100 ⟨by decide, by decide⟩ (fun q => ?_) (fun q => ?_)
        ·
          have h := wp_pos h q
          refine rs_pure wi_106_107 rfl ?_
          refine rs_topi (v := 0) (by decide) ?_
          exact hj108 _ h _ l0
        ·
          have h := wp_neg h q
          refine rs_pure wi_106_103 rfl ?_
          refine rs_topi (v := 1) (by decide) ?_
          refine rs_goto (tg := 108) wi_106_104 ⟨by decide, by decide⟩ ?_
          exact hj108 _ h _ l0
    refine rs_ifne (tg := 61) wi_106_54 ⟨by decide, by decide⟩ (fun q => ?_) (fun q => ?_)
    ·
      have h := wp_neg h q
      exact hj61 _ h _ l0
    ·
      have h := wp_pos h q
      refine rs_aldn wi_106_57 l0 ?_
      refine rs_V wi_106_58 wc_106_646 rfl (dq_isa tf_174_0 wa_15_415) (Nat.le_trans (by decide) hF) (ml_le wm_415 (Nat.le_trans (by decide) hLo)) rfl (sp_415 hw (Nat.le_trans (by decide : 2 ≤ 12 - 1) (Nat.sub_le_sub_right hF 1)) (ml_sub wm_415 (Nat.le_trans (by decide : 50 ≤ 304 - 22) (Nat.sub_le_sub_right hLo 22))) (wp_bind h) (fun r48 h => rs_back0 ?_))
      exact hj61 _ h _ l0
  refine rs_ifne (tg := 50) wi_106_43 ⟨by decide, by decide⟩ (fun q => ?_) (fun q => ?_)
  ·
    have h := wp_neg h q
    exact hj50 _ h _ l0
  ·
    have h := wp_pos h q
    refine rs_aldn wi_106_46 l0 ?_
    refine rs_V wi_106_47 wc_106_643 rfl (dq_isa tf_174_0 wa_15_104) (Nat.le_trans (by decide) hF) (ml_le wm_104 (Nat.le_trans (by decide) hLo)) rfl (sp_104 hw (Nat.le_trans (by decide : 11 ≤ 12 - 1) (Nat.sub_le_sub_right hF 1)) (ml_sub wm_104 (Nat.le_trans (by decide : 283 ≤ 304 - 21) (Nat.sub_le_sub_right hLo 21))) (wp_bind h) (fun r49 h => rs_back0 ?_))
    exact hj50 _ h _ l0
theorem wf_107_412 : rx_ft (rt_P sc fm) 107 412 = some (15, 11) := (by decide +kernel : rt_ft 107 412 = some (15, 11))
theorem wf_107_415 : rx_ft (rt_P sc fm) 107 415 = some (15, 12) := (by decide +kernel : rt_ft 107 415 = some (15, 12))
theorem wi_107_0 : ri (rt_P sc fm) 107 0 (.aload_n 0) (1) := ri_of (by decide +kernel) rfl
theorem wi_107_1 : ri (rt_P sc fm) 107 1 (.iconst 0) (2) := ri_of (by decide +kernel) rfl
theorem wi_107_10 : ri (rt_P sc fm) 107 10 (.getfield 412) (13) := ri_of (by decide +kernel) rfl
theorem wi_107_13 : ri (rt_P sc fm) 107 13 (.goto 16) (16) := ri_of (by decide +kernel) rfl
theorem wi_107_16 : ri (rt_P sc fm) 107 16 (.iload_n 1) (17) := ri_of (by decide +kernel) rfl
theorem wi_107_17 : ri (rt_P sc fm) 107 17 (.iconst 1) (18) := ri_of (by decide +kernel) rfl
theorem wi_107_18 : ri (rt_P sc fm) 107 18 (.if_icmp .ne 10) (21) := ri_of (by decide +kernel) rfl
theorem wi_107_2 : ri (rt_P sc fm) 107 2 (.putfield 356) (5) := ri_of (by decide +kernel) rfl
theorem wi_107_21 : ri (rt_P sc fm) 107 21 (.aload_n 0) (22) := ri_of (by decide +kernel) rfl
theorem wi_107_22 : ri (rt_P sc fm) 107 22 (.getfield 415) (25) := ri_of (by decide +kernel) rfl
theorem wi_107_25 : ri (rt_P sc fm) 107 25 (.goto 4) (28) := ri_of (by decide +kernel) rfl
theorem wi_107_28 : ri (rt_P sc fm) 107 28 (.iconst (-1)) (29) := ri_of (by decide +kernel) rfl
theorem wi_107_29 : ri (rt_P sc fm) 107 29 (.ireturn) (30) := ri_of (by decide +kernel) rfl
theorem wi_107_5 : ri (rt_P sc fm) 107 5 (.iload_n 1) (6) := ri_of (by decide +kernel) rfl
theorem wi_107_6 : ri (rt_P sc fm) 107 6 (.ifCond .ne 10) (9) := ri_of (by decide +kernel) rfl
theorem wi_107_9 : ri (rt_P sc fm) 107 9 (.aload_n 0) (10) := ri_of (by decide +kernel) rfl
theorem wp_107_356 : rx_pt (rt_P sc fm) 107 356 = some (15, 0, .int) := (by decide +kernel : rt_pt 107 356 = some (15, 0, .int))
theorem wr_107 : rx_rt (rt_P sc fm) 107 = (some FieldType.int) := (by decide +kernel : rt_rt 107 = (some FieldType.int))
/-- MarkHouseModel.fault(I)I -/
def d_107 (n : Nat) (a1 : Int32) (c : cS) : Option (Int32 × cS) :=
  lt (pI c 174 0 0) (fun c1 =>
  jn (fun p3 : Int32 =>
    some (p3, c1))
  (fun j29 =>
  if a1 = 0 then
    j29 (c1.1 174 11)
  else
    if a1 = 1 then
      j29 (c1.1 174 12)
    else
      j29 (-1)))
set_option maxRecDepth 100000 in
set_option maxHeartbeats 4000000 in
theorem sp_107 {F Lo n : Nat} {a1 : Int32} {c y : cS} {w : cW} {K : Int32 × cS → Prop} {Q : ((Option Value) ⊕ String) → List va_E → Prop} (hw : rOK fm w) (hF : 0 ≤ F) (hLo : 0 ≤ Lo)  (h : wp (d_107 n a1 c) K) (hQ : ∀ r, K r → Q (.inl (some (.int r.1))) (hq false r.2 y w)) : rs (rt_P sc fm) 107 F Lo 0 [(0, .ref 174), (1, .int a1)] [] (hq false c y w) Q := by
  unfold d_107 at h
  obtain ⟨lv, elv⟩ : ∃ lv : rx_L, lv = [(0, .ref 174), (1, .int a1)] := ⟨_, rfl⟩
  rw [← elv]
  have l0 : rx_ld lv 0 = some (.ref 174) := by rw [elv]; rfl
  have l1 : rx_ld lv 1 = some (.int a1) := by rw [elv]; rfl
  refine rs_aldn wi_107_0 l0 ?_
  refine rs_pure wi_107_1 rfl ?_
  refine rs_topi (v := 0) (by decide) ?_
  obtain ⟨c1, e2, h⟩ := wp_lt h
  refine dq_pi wi_107_2 wp_107_356 tf_174_0 rfl rfl e2 ?_
  refine rs_ildn wi_107_5 l1 ?_
  refine wp_jn (B := fun p3 : Int32 => ∀ lv, rs (rt_P sc fm) 107 F Lo 29 lv [.int p3] (hq false c1 y w) Q) h (fun p3 h lv => ?_) (fun j29 hj29 h => ?_)
  ·
    exact rs_iret wi_107_29 wr_107 rfl (hQ (p3, c1) h)
  refine rs_ifne (tg := 16) wi_107_6 ⟨by decide, by decide⟩ (fun q => ?_) (fun q => ?_)
  ·
    have h := wp_neg h q
    refine rs_ildn wi_107_16 l1 ?_
    refine rs_pure wi_107_17 rfl ?_
    refine rs_topi (v := 1) (by decide) ?_
    refine rs_icne (tg := 28) wi_107_18 ⟨by decide, by decide⟩ (fun q => ?_) (fun q => ?_)
    ·
      have h := wp_neg h q
      refine rs_pure wi_107_28 rfl ?_
      refine rs_topi (v := (-1)) (by decide) ?_
      exact hj29 _ h _
    ·
      have h := wp_pos h q
      refine rs_aldn wi_107_21 l0 ?_
      refine dq_gi wi_107_22 wf_107_415 tf_174_12 ?_
      refine rs_goto (tg := 29) wi_107_25 ⟨by decide, by decide⟩ ?_
      exact hj29 _ h _
  ·
    have h := wp_pos h q
    refine rs_aldn wi_107_9 l0 ?_
    refine dq_gi wi_107_10 wf_107_412 tf_174_11 ?_
    refine rs_goto (tg := 29) wi_107_13 ⟨by decide, by decide⟩ ?_
    exact hj29 _ h _
theorem wf_108_456 : rx_ft (rt_P sc fm) 108 456 = some (15, 37) := (by decide +kernel : rt_ft 108 456 = some (15, 37))
theorem wf_108_634 : rx_ft (rt_P sc fm) 108 634 = some (15, 14) := (by decide +kernel : rt_ft 108 634 = some (15, 14))
theorem wi_108_0 : ri (rt_P sc fm) 108 0 (.aload_n 0) (1) := ri_of (by decide +kernel) rfl
theorem wi_108_1 : ri (rt_P sc fm) 108 1 (.getfield 634) (4) := ri_of (by decide +kernel) rfl
theorem wi_108_11 : ri (rt_P sc fm) 108 11 (.iload_n 1) (12) := ri_of (by decide +kernel) rfl
theorem wi_108_12 : ri (rt_P sc fm) 108 12 (.aload_n 0) (13) := ri_of (by decide +kernel) rfl
theorem wi_108_13 : ri (rt_P sc fm) 108 13 (.getfield 456) (16) := ri_of (by decide +kernel) rfl
theorem wi_108_16 : ri (rt_P sc fm) 108 16 (.if_icmp .ge 7) (19) := ri_of (by decide +kernel) rfl
theorem wi_108_19 : ri (rt_P sc fm) 108 19 (.iconst 1) (20) := ri_of (by decide +kernel) rfl
theorem wi_108_20 : ri (rt_P sc fm) 108 20 (.goto 4) (23) := ri_of (by decide +kernel) rfl
theorem wi_108_23 : ri (rt_P sc fm) 108 23 (.iconst 0) (24) := ri_of (by decide +kernel) rfl
theorem wi_108_24 : ri (rt_P sc fm) 108 24 (.ireturn) (25) := ri_of (by decide +kernel) rfl
theorem wi_108_4 : ri (rt_P sc fm) 108 4 (.ifCond .eq 19) (7) := ri_of (by decide +kernel) rfl
theorem wi_108_7 : ri (rt_P sc fm) 108 7 (.iload_n 1) (8) := ri_of (by decide +kernel) rfl
theorem wi_108_8 : ri (rt_P sc fm) 108 8 (.ifCond .lt 15) (11) := ri_of (by decide +kernel) rfl
theorem wr_108 : rx_rt (rt_P sc fm) 108 = (some FieldType.boolean) := (by decide +kernel : rt_rt 108 = (some FieldType.boolean))
/-- MarkHouseModel.isClass(I)Z -/
def d_108 (n : Nat) (a1 : Int32) (c : cS) : Option (Int32) :=
  jn (fun p1 : Int32 =>
    if nb p1 then
    some p1
    else none)
  (fun j24 =>
  jn (fun p3 : Unit =>
    j24 0)
  (fun j23 =>
  if (c.1 174 14) = 0 then
    j23 ()
  else
    if a1 < 0 then
      j23 ()
    else
      if (c.1 174 37) ≤ a1 then
        j23 ()
      else
        j24 1))
set_option maxRecDepth 100000 in
set_option maxHeartbeats 4000000 in
theorem sp_108 {F Lo n : Nat} {a1 : Int32} {c y : cS} {w : cW} {K : Int32 → Prop} {Q : ((Option Value) ⊕ String) → List va_E → Prop} (hw : rOK fm w) (hF : 0 ≤ F) (hLo : 0 ≤ Lo)  (h : wp (d_108 n a1 c) K) (hQ : ∀ r, K r → Q (.inl (some (.int r))) (hq false c y w)) : rs (rt_P sc fm) 108 F Lo 0 [(0, .ref 174), (1, .int a1)] [] (hq false c y w) Q := by
  unfold d_108 at h
  obtain ⟨lv, elv⟩ : ∃ lv : rx_L, lv = [(0, .ref 174), (1, .int a1)] := ⟨_, rfl⟩
  rw [← elv]
  have l0 : rx_ld lv 0 = some (.ref 174) := by rw [elv]; rfl
  have l1 : rx_ld lv 1 = some (.int a1) := by rw [elv]; rfl
  refine rs_aldn wi_108_0 l0 ?_
  refine dq_gi wi_108_1 wf_108_634 tf_174_14 ?_
  refine wp_jn (B := fun p1 : Int32 => ∀ lv, rs (rt_P sc fm) 108 F Lo 24 lv [.int p1] (hq false c y w) Q) h (fun p1 h lv => ?_) (fun j24 hj24 h => ?_)
  ·
    obtain ⟨g2, h⟩ := wp_gd h
    exact rs_iret wi_108_24 wr_108 (nb_n g2) (hQ p1 h)
  refine wp_jn (B := fun p3 : Unit => ∀ lv, rs (rt_P sc fm) 108 F Lo 23 lv [] (hq false c y w) Q) h (fun p3 h lv => ?_) (fun j23 hj23 h => ?_)
  ·
    refine rs_pure wi_108_23 rfl ?_
    refine rs_topi (v := 0) (by decide) ?_
    exact hj24 _ h _
  refine rs_ifeq (tg := 23) wi_108_4 ⟨by decide, by decide⟩ (fun q => ?_) (fun q => ?_)
  ·
    have h := wp_pos h q
    exact hj23 _ h _
  ·
    have h := wp_neg h q
    refine rs_ildn wi_108_7 l1 ?_
    refine rs_iflt (tg := 23) wi_108_8 ⟨by decide, by decide⟩ (fun q => ?_) (fun q => ?_)
    ·
      have h := wp_pos h q
      exact hj23 _ h _
    ·
      have h := wp_neg h q
      refine rs_ildn wi_108_11 l1 ?_
      refine rs_aldn wi_108_12 l0 ?_
      refine dq_gi wi_108_13 wf_108_456 tf_174_37 ?_
      refine rs_icge (tg := 23) wi_108_16 ⟨by decide, by decide⟩ (fun q => ?_) (fun q => ?_)
      ·
        have h := wp_pos h q
        exact hj23 _ h _
      ·
        have h := wp_neg h q
        refine rs_pure wi_108_19 rfl ?_
        refine rs_topi (v := 1) (by decide) ?_
        refine rs_goto (tg := 24) wi_108_20 ⟨by decide, by decide⟩ ?_
        exact hj24 _ h _
theorem wf_109_158 : rx_ft (rt_P sc fm) 109 158 = some (15, 40) := (by decide +kernel : rt_ft 109 158 = some (15, 40))
theorem wf_109_161 : rx_ft (rt_P sc fm) 109 161 = some (15, 41) := (by decide +kernel : rt_ft 109 161 = some (15, 41))
theorem wf_109_173 : rx_ft (rt_P sc fm) 109 173 = some (15, 45) := (by decide +kernel : rt_ft 109 173 = some (15, 45))
theorem wf_109_456 : rx_ft (rt_P sc fm) 109 456 = some (15, 37) := (by decide +kernel : rt_ft 109 456 = some (15, 37))
theorem wf_109_634 : rx_ft (rt_P sc fm) 109 634 = some (15, 14) := (by decide +kernel : rt_ft 109 634 = some (15, 14))
theorem wi_109_0 : ri (rt_P sc fm) 109 0 (.aload_n 0) (1) := ri_of (by decide +kernel) rfl
theorem wi_109_1 : ri (rt_P sc fm) 109 1 (.getfield 634) (4) := ri_of (by decide +kernel) rfl
theorem wi_109_100 : ri (rt_P sc fm) 109 100 (.getfield 173) (103) := ri_of (by decide +kernel) rfl
theorem wi_109_103 : ri (rt_P sc fm) 109 103 (.bipush 8) (105) := ri_of (by decide +kernel) rfl
theorem wi_109_105 : ri (rt_P sc fm) 109 105 (.iload_n 2) (106) := ri_of (by decide +kernel) rfl
theorem wi_109_106 : ri (rt_P sc fm) 109 106 (.imul) (107) := ri_of (by decide +kernel) rfl
theorem wi_109_107 : ri (rt_P sc fm) 109 107 (.iload 4) (109) := ri_of (by decide +kernel) rfl
theorem wi_109_109 : ri (rt_P sc fm) 109 109 (.iadd) (110) := ri_of (by decide +kernel) rfl
theorem wi_109_11 : ri (rt_P sc fm) 109 11 (.iload_n 1) (12) := ri_of (by decide +kernel) rfl
theorem wi_109_110 : ri (rt_P sc fm) 109 110 (.iaload) (111) := ri_of (by decide +kernel) rfl
theorem wi_109_111 : ri (rt_P sc fm) 109 111 (.if_icmp .gt 7) (114) := ri_of (by decide +kernel) rfl
theorem wi_109_114 : ri (rt_P sc fm) 109 114 (.iconst 1) (115) := ri_of (by decide +kernel) rfl
theorem wi_109_115 : ri (rt_P sc fm) 109 115 (.goto 4) (118) := ri_of (by decide +kernel) rfl
theorem wi_109_118 : ri (rt_P sc fm) 109 118 (.iconst 0) (119) := ri_of (by decide +kernel) rfl
theorem wi_109_119 : ri (rt_P sc fm) 109 119 (.ireturn) (120) := ri_of (by decide +kernel) rfl
theorem wi_109_12 : ri (rt_P sc fm) 109 12 (.bipush 100) (14) := ri_of (by decide +kernel) rfl
theorem wi_109_14 : ri (rt_P sc fm) 109 14 (.idiv) (15) := ri_of (by decide +kernel) rfl
theorem wi_109_15 : ri (rt_P sc fm) 109 15 (.aload_n 0) (16) := ri_of (by decide +kernel) rfl
theorem wi_109_16 : ri (rt_P sc fm) 109 16 (.getfield 456) (19) := ri_of (by decide +kernel) rfl
theorem wi_109_19 : ri (rt_P sc fm) 109 19 (.if_icmp .lt 5) (22) := ri_of (by decide +kernel) rfl
theorem wi_109_22 : ri (rt_P sc fm) 109 22 (.iconst 0) (23) := ri_of (by decide +kernel) rfl
theorem wi_109_23 : ri (rt_P sc fm) 109 23 (.ireturn) (24) := ri_of (by decide +kernel) rfl
theorem wi_109_24 : ri (rt_P sc fm) 109 24 (.iload_n 1) (25) := ri_of (by decide +kernel) rfl
theorem wi_109_25 : ri (rt_P sc fm) 109 25 (.bipush 100) (27) := ri_of (by decide +kernel) rfl
theorem wi_109_27 : ri (rt_P sc fm) 109 27 (.idiv) (28) := ri_of (by decide +kernel) rfl
theorem wi_109_28 : ri (rt_P sc fm) 109 28 (.istore_n 2) (29) := ri_of (by decide +kernel) rfl
theorem wi_109_29 : ri (rt_P sc fm) 109 29 (.iload_n 1) (30) := ri_of (by decide +kernel) rfl
theorem wi_109_30 : ri (rt_P sc fm) 109 30 (.bipush 100) (32) := ri_of (by decide +kernel) rfl
theorem wi_109_32 : ri (rt_P sc fm) 109 32 (.irem) (33) := ri_of (by decide +kernel) rfl
theorem wi_109_33 : ri (rt_P sc fm) 109 33 (.istore_n 3) (34) := ri_of (by decide +kernel) rfl
theorem wi_109_34 : ri (rt_P sc fm) 109 34 (.iload_n 3) (35) := ri_of (by decide +kernel) rfl
theorem wi_109_35 : ri (rt_P sc fm) 109 35 (.ifCond .ne 5) (38) := ri_of (by decide +kernel) rfl
theorem wi_109_38 : ri (rt_P sc fm) 109 38 (.iconst 1) (39) := ri_of (by decide +kernel) rfl
theorem wi_109_39 : ri (rt_P sc fm) 109 39 (.ireturn) (40) := ri_of (by decide +kernel) rfl
theorem wi_109_4 : ri (rt_P sc fm) 109 4 (.ifCond .eq 18) (7) := ri_of (by decide +kernel) rfl
theorem wi_109_40 : ri (rt_P sc fm) 109 40 (.iload_n 3) (41) := ri_of (by decide +kernel) rfl
theorem wi_109_41 : ri (rt_P sc fm) 109 41 (.bipush 8) (43) := ri_of (by decide +kernel) rfl
theorem wi_109_43 : ri (rt_P sc fm) 109 43 (.if_icmp .gt 21) (46) := ri_of (by decide +kernel) rfl
theorem wi_109_46 : ri (rt_P sc fm) 109 46 (.iload_n 3) (47) := ri_of (by decide +kernel) rfl
theorem wi_109_47 : ri (rt_P sc fm) 109 47 (.iconst 1) (48) := ri_of (by decide +kernel) rfl
theorem wi_109_48 : ri (rt_P sc fm) 109 48 (.isub) (49) := ri_of (by decide +kernel) rfl
theorem wi_109_49 : ri (rt_P sc fm) 109 49 (.aload_n 0) (50) := ri_of (by decide +kernel) rfl
theorem wi_109_50 : ri (rt_P sc fm) 109 50 (.getfield 158) (53) := ri_of (by decide +kernel) rfl
theorem wi_109_53 : ri (rt_P sc fm) 109 53 (.iload_n 2) (54) := ri_of (by decide +kernel) rfl
theorem wi_109_54 : ri (rt_P sc fm) 109 54 (.iaload) (55) := ri_of (by decide +kernel) rfl
theorem wi_109_55 : ri (rt_P sc fm) 109 55 (.if_icmp .ge 7) (58) := ri_of (by decide +kernel) rfl
theorem wi_109_58 : ri (rt_P sc fm) 109 58 (.iconst 1) (59) := ri_of (by decide +kernel) rfl
theorem wi_109_59 : ri (rt_P sc fm) 109 59 (.goto 4) (62) := ri_of (by decide +kernel) rfl
theorem wi_109_62 : ri (rt_P sc fm) 109 62 (.iconst 0) (63) := ri_of (by decide +kernel) rfl
theorem wi_109_63 : ri (rt_P sc fm) 109 63 (.ireturn) (64) := ri_of (by decide +kernel) rfl
theorem wi_109_64 : ri (rt_P sc fm) 109 64 (.iload_n 3) (65) := ri_of (by decide +kernel) rfl
theorem wi_109_65 : ri (rt_P sc fm) 109 65 (.bipush 20) (67) := ri_of (by decide +kernel) rfl
theorem wi_109_67 : ri (rt_P sc fm) 109 67 (.if_icmp .ge 5) (70) := ri_of (by decide +kernel) rfl
theorem wi_109_7 : ri (rt_P sc fm) 109 7 (.iload_n 1) (8) := ri_of (by decide +kernel) rfl
theorem wi_109_70 : ri (rt_P sc fm) 109 70 (.iconst 0) (71) := ri_of (by decide +kernel) rfl
theorem wi_109_71 : ri (rt_P sc fm) 109 71 (.ireturn) (72) := ri_of (by decide +kernel) rfl
theorem wi_109_72 : ri (rt_P sc fm) 109 72 (.iload_n 3) (73) := ri_of (by decide +kernel) rfl
theorem wi_109_73 : ri (rt_P sc fm) 109 73 (.bipush 20) (75) := ri_of (by decide +kernel) rfl
theorem wi_109_75 : ri (rt_P sc fm) 109 75 (.isub) (76) := ri_of (by decide +kernel) rfl
theorem wi_109_76 : ri (rt_P sc fm) 109 76 (.bipush 10) (78) := ri_of (by decide +kernel) rfl
theorem wi_109_78 : ri (rt_P sc fm) 109 78 (.idiv) (79) := ri_of (by decide +kernel) rfl
theorem wi_109_79 : ri (rt_P sc fm) 109 79 (.istore 4) (81) := ri_of (by decide +kernel) rfl
theorem wi_109_8 : ri (rt_P sc fm) 109 8 (.ifCond .lt 14) (11) := ri_of (by decide +kernel) rfl
theorem wi_109_81 : ri (rt_P sc fm) 109 81 (.iload 4) (83) := ri_of (by decide +kernel) rfl
theorem wi_109_83 : ri (rt_P sc fm) 109 83 (.aload_n 0) (84) := ri_of (by decide +kernel) rfl
theorem wi_109_84 : ri (rt_P sc fm) 109 84 (.getfield 161) (87) := ri_of (by decide +kernel) rfl
theorem wi_109_87 : ri (rt_P sc fm) 109 87 (.iload_n 2) (88) := ri_of (by decide +kernel) rfl
theorem wi_109_88 : ri (rt_P sc fm) 109 88 (.iaload) (89) := ri_of (by decide +kernel) rfl
theorem wi_109_89 : ri (rt_P sc fm) 109 89 (.if_icmp .ge 29) (92) := ri_of (by decide +kernel) rfl
theorem wi_109_92 : ri (rt_P sc fm) 109 92 (.iload_n 3) (93) := ri_of (by decide +kernel) rfl
theorem wi_109_93 : ri (rt_P sc fm) 109 93 (.bipush 20) (95) := ri_of (by decide +kernel) rfl
theorem wi_109_95 : ri (rt_P sc fm) 109 95 (.isub) (96) := ri_of (by decide +kernel) rfl
theorem wi_109_96 : ri (rt_P sc fm) 109 96 (.bipush 10) (98) := ri_of (by decide +kernel) rfl
theorem wi_109_98 : ri (rt_P sc fm) 109 98 (.irem) (99) := ri_of (by decide +kernel) rfl
theorem wi_109_99 : ri (rt_P sc fm) 109 99 (.aload_n 0) (100) := ri_of (by decide +kernel) rfl
theorem wr_109 : rx_rt (rt_P sc fm) 109 = (some FieldType.boolean) := (by decide +kernel : rt_rt 109 = (some FieldType.boolean))
/-- MarkHouseModel.isPlace(I)Z -/
def d_109 (n : Nat) (a1 : Int32) (c : cS) : Option (Int32) :=
  jn (fun p1 : Unit =>
    some 0)
  (fun j22 =>
  if (c.1 174 14) = 0 then
    j22 ()
  else
    if a1 < 0 then
      j22 ()
    else
      if (a1 / 100) < (c.1 174 37) then
        lt ((a1 / 100) : Int32) (fun v3 =>
        lt ((a1 - a1 / 100 * 100) : Int32) (fun v6 =>
        if v6 = 0 then
          some 1
        else
          if 8 < v6 then
            if 20 ≤ v6 then
              lt (((v6 - 20) / 10) : Int32) (fun v9 =>
              if ib v3 12 then
              jn (fun p12 : Int32 =>
                if nb p12 then
                some p12
                else none)
              (fun j119 =>
              jn (fun p14 : Unit =>
                j119 0)
              (fun j118 =>
              if (c.1 203 (ix v3)) ≤ v9 then
                j118 ()
              else
                if ib ((8 * v3) + v9) 96 then
                if (c.1 207 (ix ((8 * v3) + v9))) < ((v6 - 20) - (v6 - 20) / 10 * 10) then
                  j118 ()
                else
                  j119 1
                else none))
              else none)
            else
              some 0
          else
            if ib v3 12 then
            jn (fun p17 : Int32 =>
              if nb p17 then
              some p17
              else none)
            (fun j63 =>
            if (c.1 202 (ix v3)) ≤ (v6 - 1) then
              j63 0
            else
              j63 1)
            else none))
      else
        j22 ())
set_option maxRecDepth 100000 in
set_option maxHeartbeats 4000000 in
theorem sp_109 {F Lo n : Nat} {a1 : Int32} {c y : cS} {w : cW} {K : Int32 → Prop} {Q : ((Option Value) ⊕ String) → List va_E → Prop} (hw : rOK fm w) (hF : 0 ≤ F) (hLo : 0 ≤ Lo)  (h : wp (d_109 n a1 c) K) (hQ : ∀ r, K r → Q (.inl (some (.int r))) (hq false c y w)) : rs (rt_P sc fm) 109 F Lo 0 [(0, .ref 174), (1, .int a1)] [] (hq false c y w) Q := by
  unfold d_109 at h
  obtain ⟨lv, elv⟩ : ∃ lv : rx_L, lv = [(0, .ref 174), (1, .int a1)] := ⟨_, rfl⟩
  rw [← elv]
  have l0 : rx_ld lv 0 = some (.ref 174) := by rw [elv]; rfl
  have l1 : rx_ld lv 1 = some (.int a1) := by rw [elv]; rfl
  refine rs_aldn wi_109_0 l0 ?_
  refine dq_gi wi_109_1 wf_109_634 tf_174_14 ?_
  refine wp_jn (B := fun p1 : Unit => ∀ lv, rs (rt_P sc fm) 109 F Lo 22 lv [] (hq false c y w) Q) h (fun p1 h lv => ?_) (fun j22 hj22 h => ?_)
  ·
    refine rs_pure wi_109_22 rfl ?_
    refine rs_topi (v := 0) (by decide) ?_
    exact rs_iret wi_109_23 wr_109 (nb_n (by decide)) (hQ 0 h)
  refine rs_ifeq (tg := 22) wi_109_4 ⟨by decide, by decide⟩ (fun q => ?_) (fun q => ?_)
  ·
    have h := wp_pos h q
    exact hj22 _ h _
  ·
    have h := wp_neg h q
    refine rs_ildn wi_109_7 l1 ?_
    refine rs_iflt (tg := 22) wi_109_8 ⟨by decide, by decide⟩ (fun q => ?_) (fun q => ?_)
    ·
      have h := wp_pos h q
      exact hj22 _ h _
    ·
      have h := wp_neg h q
      refine rs_ildn wi_109_11 l1 ?_
      refine rs_pure wi_109_12 rfl ?_
      refine rs_topi (v := 100) (by decide) ?_
      refine dl_idiv wi_109_14 (by decide) ?_
      refine rs_aldn wi_109_15 l0 ?_
      refine dq_gi wi_109_16 wf_109_456 tf_174_37 ?_
      refine rs_iclt (tg := 24) wi_109_19 ⟨by decide, by decide⟩ (fun q => ?_) (fun q => ?_)
      ·
        have h := wp_pos h q
        refine rs_ildn wi_109_24 l1 ?_
        refine rs_pure wi_109_25 rfl ?_
        refine rs_topi (v := 100) (by decide) ?_
        refine dl_idiv wi_109_27 (by decide) ?_
        obtain ⟨v3, e4, h⟩ := wp_lt h
        refine rs_topi e4 ?_
        refine dl_istn wi_109_28 rfl (fun lv l2 t2 => ?_)
        have l0 := t2 _ _ (by decide) (Or.inl rfl) l0
        have l1 := t2 _ _ (by decide) (Or.inl rfl) l1
        refine rs_ildn wi_109_29 l1 ?_
        refine rs_pure wi_109_30 rfl ?_
        refine rs_topi (v := 100) (by decide) ?_
        refine dl_irem wi_109_32 (by decide) ?_
        obtain ⟨v6, e7, h⟩ := wp_lt h
        refine rs_topi e7 ?_
        refine dl_istn wi_109_33 rfl (fun lv l3 t5 => ?_)
        have l0 := t5 _ _ (by decide) (Or.inl rfl) l0
        have l2 := t5 _ _ (by decide) (Or.inl rfl) l2
        refine rs_ildn wi_109_34 l3 ?_
        refine rs_ifne (tg := 40) wi_109_35 ⟨by decide, by decide⟩ (fun q => ?_) (fun q => ?_)
        ·
          have h := wp_neg h q
          refine rs_ildn wi_109_40 l3 ?_
          refine rs_pure wi_109_41 rfl ?_
          refine rs_topi (v := 8) (by decide) ?_
          refine rs_icgt (tg := 64) wi_109_43 ⟨by decide, by decide⟩ (fun q => ?_) (fun q => ?_)
          ·
            have h := wp_pos h q
            refine rs_ildn wi_109_64 l3 ?_
            refine rs_pure wi_109_65 rfl ?_
            refine rs_topi (v := 20) (by decide) ?_
            refine rs_icge (tg := 72) wi_109_67 ⟨by decide, by decide⟩ (fun q => ?_) (fun q => ?_)
            ·
              have h := wp_pos h q
              refine rs_ildn wi_109_72 l3 ?_
              refine rs_pure wi_109_73 rfl ?_
              refine rs_topi (v := 20) (by decide) ?_
              refine rs_pure wi_109_75 rfl ?_
              refine rs_pure wi_109_76 rfl ?_
              refine rs_topi (v := 10) (by decide) ?_
              refine dl_idiv wi_109_78 (by decide) ?_
              obtain ⟨v9, e10, h⟩ := wp_lt h
              refine rs_topi e10 ?_
              refine dl_ist wi_109_79 rfl (fun lv l4 t8 => ?_)
              have l0 := t8 _ _ (by decide) (Or.inl rfl) l0
              have l2 := t8 _ _ (by decide) (Or.inl rfl) l2
              have l3 := t8 _ _ (by decide) (Or.inl rfl) l3
              refine rs_ild wi_109_81 l4 ?_
              refine rs_aldn wi_109_83 l0 ?_
              refine dq_gr wi_109_84 wf_109_161 tf_174_41 ?_
              refine rs_ildn wi_109_87 l2 ?_
              obtain ⟨g11, h⟩ := wp_gd h
              refine dq_iald wi_109_88 t_203 g11 ?_
              refine wp_jn (B := fun p12 : Int32 => ∀ lv, rs (rt_P sc fm) 109 F Lo 119 lv [.int p12] (hq false c y w) Q) h (fun p12 h lv => ?_) (fun j119 hj119 h => ?_)
              ·
                obtain ⟨g13, h⟩ := wp_gd h
                exact rs_iret wi_109_119 wr_109 (nb_n g13) (hQ p12 h)
              refine wp_jn (B := fun p14 : Unit => ∀ lv, rs (rt_P sc fm) 109 F Lo 118 lv [] (hq false c y w) Q) h (fun p14 h lv => ?_) (fun j118 hj118 h => ?_)
              ·
                refine rs_pure wi_109_118 rfl ?_
                refine rs_topi (v := 0) (by decide) ?_
                exact hj119 _ h _
              refine rs_icge (tg := 118) wi_109_89 ⟨by decide, by decide⟩ (fun q => ?_) (fun q => ?_)
              ·
                have h := wp_pos h q
                exact hj118 _ h _
              ·
                have h := wp_neg h q
                refine rs_ildn wi_109_92 l3 ?_
                refine rs_pure wi_109_93 rfl ?_
                refine rs_topi (v := 20) (by decide) ?_
                refine rs_pure wi_109_95 rfl ?_
                refine rs_pure wi_109_96 rfl ?_
                refine rs_topi (v := 10) (by decide) ?_
                refine dl_irem wi_109_98 (by decide) ?_
                refine rs_aldn wi_109_99 l0 ?_
                refine dq_gr wi_109_100 wf_109_173 tf_174_45 ?_
                refine rs_pure wi_109_103 rfl ?_
                refine rs_topi (v := 8) (by decide) ?_
                refine rs_ildn wi_109_105 l2 ?_
                refine rs_pure wi_109_106 rfl ?_
                refine rs_ild wi_109_107 l4 ?_
                refine rs_pure wi_109_109 rfl ?_
                obtain ⟨g15, h⟩ := wp_gd h
                refine dq_iald wi_109_110 t_207 g15 ?_
                refine rs_icgt (tg := 118) wi_109_111 ⟨by decide, by decide⟩ (fun q => ?_) (fun q => ?_)
                ·
                  have h := wp_pos h q
                  exact hj118 _ h _
                ·
                  have h := wp_neg h q
                  refine rs_pure wi_109_114 rfl ?_
                  refine rs_topi (v := 1) (by decide) ?_
                  refine rs_goto (tg := 119) wi_109_115 ⟨by decide, by decide⟩ ?_
                  exact hj119 _ h _
            ·
              have h := wp_neg h q
              refine rs_pure wi_109_70 rfl ?_
              refine rs_topi (v := 0) (by decide) ?_
              exact rs_iret wi_109_71 wr_109 (nb_n (by decide)) (hQ 0 h)
          ·
            have h := wp_neg h q
            refine rs_ildn wi_109_46 l3 ?_
            refine rs_pure wi_109_47 rfl ?_
            refine rs_topi (v := 1) (by decide) ?_
            refine rs_pure wi_109_48 rfl ?_
            refine rs_aldn wi_109_49 l0 ?_
            refine dq_gr wi_109_50 wf_109_158 tf_174_40 ?_
            refine rs_ildn wi_109_53 l2 ?_
            obtain ⟨g16, h⟩ := wp_gd h
            refine dq_iald wi_109_54 t_202 g16 ?_
            refine wp_jn (B := fun p17 : Int32 => ∀ lv, rs (rt_P sc fm) 109 F Lo 63 lv [.int p17] (hq false c y w) Q) h (fun p17 h lv => ?_) (fun j63 hj63 h => ?_)
            ·
              obtain ⟨g18, h⟩ := wp_gd h
              exact rs_iret wi_109_63 wr_109 (nb_n g18) (hQ p17 h)
            refine rs_icge (tg := 62) wi_109_55 ⟨by decide, by decide⟩ (fun q => ?_) (fun q => ?_)
            ·
              have h := wp_pos h q
              refine rs_pure wi_109_62 rfl ?_
              refine rs_topi (v := 0) (by decide) ?_
              exact hj63 _ h _
            ·
              have h := wp_neg h q
              refine rs_pure wi_109_58 rfl ?_
              refine rs_topi (v := 1) (by decide) ?_
              refine rs_goto (tg := 63) wi_109_59 ⟨by decide, by decide⟩ ?_
              exact hj63 _ h _
        ·
          have h := wp_pos h q
          refine rs_pure wi_109_38 rfl ?_
          refine rs_topi (v := 1) (by decide) ?_
          exact rs_iret wi_109_39 wr_109 (nb_n (by decide)) (hQ 1 h)
      ·
        have h := wp_neg h q
        exact hj22 _ h _
theorem wi_110_0 : ri (rt_P sc fm) 110 0 (.iload_n 0) (1) := ri_of (by decide +kernel) rfl
theorem wi_110_1 : ri (rt_P sc fm) 110 1 (.bipush 100) (3) := ri_of (by decide +kernel) rfl
theorem wi_110_10 : ri (rt_P sc fm) 110 10 (.goto 29) (13) := ri_of (by decide +kernel) rfl
theorem wi_110_13 : ri (rt_P sc fm) 110 13 (.iload_n 1) (14) := ri_of (by decide +kernel) rfl
theorem wi_110_14 : ri (rt_P sc fm) 110 14 (.bipush 20) (16) := ri_of (by decide +kernel) rfl
theorem wi_110_16 : ri (rt_P sc fm) 110 16 (.if_icmp .ge 7) (19) := ri_of (by decide +kernel) rfl
theorem wi_110_19 : ri (rt_P sc fm) 110 19 (.iconst 2) (20) := ri_of (by decide +kernel) rfl
theorem wi_110_20 : ri (rt_P sc fm) 110 20 (.goto 19) (23) := ri_of (by decide +kernel) rfl
theorem wi_110_23 : ri (rt_P sc fm) 110 23 (.iload_n 1) (24) := ri_of (by decide +kernel) rfl
theorem wi_110_24 : ri (rt_P sc fm) 110 24 (.bipush 20) (26) := ri_of (by decide +kernel) rfl
theorem wi_110_26 : ri (rt_P sc fm) 110 26 (.isub) (27) := ri_of (by decide +kernel) rfl
theorem wi_110_27 : ri (rt_P sc fm) 110 27 (.bipush 10) (29) := ri_of (by decide +kernel) rfl
theorem wi_110_29 : ri (rt_P sc fm) 110 29 (.irem) (30) := ri_of (by decide +kernel) rfl
theorem wi_110_3 : ri (rt_P sc fm) 110 3 (.irem) (4) := ri_of (by decide +kernel) rfl
theorem wi_110_30 : ri (rt_P sc fm) 110 30 (.ifCond .ne 7) (33) := ri_of (by decide +kernel) rfl
theorem wi_110_33 : ri (rt_P sc fm) 110 33 (.iconst 4) (34) := ri_of (by decide +kernel) rfl
theorem wi_110_34 : ri (rt_P sc fm) 110 34 (.goto 5) (37) := ri_of (by decide +kernel) rfl
theorem wi_110_37 : ri (rt_P sc fm) 110 37 (.bipush 8) (39) := ri_of (by decide +kernel) rfl
theorem wi_110_39 : ri (rt_P sc fm) 110 39 (.ireturn) (40) := ri_of (by decide +kernel) rfl
theorem wi_110_4 : ri (rt_P sc fm) 110 4 (.istore_n 1) (5) := ri_of (by decide +kernel) rfl
theorem wi_110_5 : ri (rt_P sc fm) 110 5 (.iload_n 1) (6) := ri_of (by decide +kernel) rfl
theorem wi_110_6 : ri (rt_P sc fm) 110 6 (.ifCond .ne 7) (9) := ri_of (by decide +kernel) rfl
theorem wi_110_9 : ri (rt_P sc fm) 110 9 (.iconst 1) (10) := ri_of (by decide +kernel) rfl
theorem wr_110 : rx_rt (rt_P sc fm) 110 = (some FieldType.int) := (by decide +kernel : rt_rt 110 = (some FieldType.int))
/-- MarkHouseModel.sortOf(I)I -/
def d_110 (n : Nat) (a0 : Int32) : Option (Int32) :=
  lt ((a0 - a0 / 100 * 100) : Int32) (fun v2 =>
  jn (fun p4 : Int32 =>
    some p4)
  (fun j39 =>
  if v2 = 0 then
    j39 1
  else
    if 20 ≤ v2 then
      if ((v2 - 20) - (v2 - 20) / 10 * 10) = 0 then
        j39 4
      else
        j39 8
    else
      j39 2))
set_option maxRecDepth 100000 in
set_option maxHeartbeats 4000000 in
theorem sp_110 {F Lo n : Nat} {a0 : Int32} {L : List va_E} {K : Int32 → Prop} {Q : ((Option Value) ⊕ String) → List va_E → Prop} (hF : 0 ≤ F) (hLo : 0 ≤ Lo)  (h : wp (d_110 n a0) K) (hQ : ∀ r, K r → Q (.inl (some (.int r))) L) : rs (rt_P sc fm) 110 F Lo 0 [(0, .int a0)] [] L Q := by
  unfold d_110 at h
  obtain ⟨lv, elv⟩ : ∃ lv : rx_L, lv = [(0, .int a0)] := ⟨_, rfl⟩
  rw [← elv]
  have l0 : rx_ld lv 0 = some (.int a0) := by rw [elv]; rfl
  refine rs_ildn wi_110_0 l0 ?_
  refine rs_pure wi_110_1 rfl ?_
  refine rs_topi (v := 100) (by decide) ?_
  refine dl_irem wi_110_3 (by decide) ?_
  obtain ⟨v2, e3, h⟩ := wp_lt h
  refine rs_topi e3 ?_
  refine dl_istn wi_110_4 rfl (fun lv l1 t1 => ?_)
  refine rs_ildn wi_110_5 l1 ?_
  refine wp_jn (B := fun p4 : Int32 => ∀ lv, rs (rt_P sc fm) 110 F Lo 39 lv [.int p4] L Q) h (fun p4 h lv => ?_) (fun j39 hj39 h => ?_)
  ·
    exact rs_iret wi_110_39 wr_110 rfl (hQ p4 h)
  refine rs_ifne (tg := 13) wi_110_6 ⟨by decide, by decide⟩ (fun q => ?_) (fun q => ?_)
  ·
    have h := wp_neg h q
    refine rs_ildn wi_110_13 l1 ?_
    refine rs_pure wi_110_14 rfl ?_
    refine rs_topi (v := 20) (by decide) ?_
    refine rs_icge (tg := 23) wi_110_16 ⟨by decide, by decide⟩ (fun q => ?_) (fun q => ?_)
    ·
      have h := wp_pos h q
      refine rs_ildn wi_110_23 l1 ?_
      refine rs_pure wi_110_24 rfl ?_
      refine rs_topi (v := 20) (by decide) ?_
      refine rs_pure wi_110_26 rfl ?_
      refine rs_pure wi_110_27 rfl ?_
      refine rs_topi (v := 10) (by decide) ?_
      refine dl_irem wi_110_29 (by decide) ?_
      refine rs_ifne (tg := 37) wi_110_30 ⟨by decide, by decide⟩ (fun q => ?_) (fun q => ?_)
      ·
        have h := wp_neg h q
        refine rs_pure wi_110_37 rfl ?_
        refine rs_topi (v := 8) (by decide) ?_
        exact hj39 _ h _
      ·
        have h := wp_pos h q
        refine rs_pure wi_110_33 rfl ?_
        refine rs_topi (v := 4) (by decide) ?_
        refine rs_goto (tg := 39) wi_110_34 ⟨by decide, by decide⟩ ?_
        exact hj39 _ h _
    ·
      have h := wp_neg h q
      refine rs_pure wi_110_19 rfl ?_
      refine rs_topi (v := 2) (by decide) ?_
      refine rs_goto (tg := 39) wi_110_20 ⟨by decide, by decide⟩ ?_
      exact hj39 _ h _
  ·
    have h := wp_pos h q
    refine rs_pure wi_110_9 rfl ?_
    refine rs_topi (v := 1) (by decide) ?_
    refine rs_goto (tg := 39) wi_110_10 ⟨by decide, by decide⟩ ?_
    exact hj39 _ h _
theorem wa_15_109 : rz_cn 15 (rx_yn (rt_P sc fm) 109).cls = true := (by decide +kernel : rz_cn 15 (rt_yn 109).cls = true)
theorem wc_111_652 : rx_ct (rt_P sc fm) 111 652 = some (0, 109, 1) := (by decide +kernel : rt_ct 111 652 = some (0, 109, 1))
theorem wc_111_655 : rx_ct (rt_P sc fm) 111 655 = some (1, 110, 1) := (by decide +kernel : rt_ct 111 655 = some (1, 110, 1))
theorem wi_111_0 : ri (rt_P sc fm) 111 0 (.aload_n 0) (1) := ri_of (by decide +kernel) rfl
theorem wi_111_1 : ri (rt_P sc fm) 111 1 (.iload_n 1) (2) := ri_of (by decide +kernel) rfl
theorem wi_111_12 : ri (rt_P sc fm) 111 12 (.iconst 4) (13) := ri_of (by decide +kernel) rfl
theorem wi_111_13 : ri (rt_P sc fm) 111 13 (.if_icmp .ne 7) (16) := ri_of (by decide +kernel) rfl
theorem wi_111_16 : ri (rt_P sc fm) 111 16 (.iconst 1) (17) := ri_of (by decide +kernel) rfl
theorem wi_111_17 : ri (rt_P sc fm) 111 17 (.goto 4) (20) := ri_of (by decide +kernel) rfl
theorem wi_111_2 : ri (rt_P sc fm) 111 2 (.invokevirtual 652) (5) := ri_of (by decide +kernel) rfl
theorem wi_111_20 : ri (rt_P sc fm) 111 20 (.iconst 0) (21) := ri_of (by decide +kernel) rfl
theorem wi_111_21 : ri (rt_P sc fm) 111 21 (.ireturn) (22) := ri_of (by decide +kernel) rfl
theorem wi_111_5 : ri (rt_P sc fm) 111 5 (.ifCond .eq 15) (8) := ri_of (by decide +kernel) rfl
theorem wi_111_8 : ri (rt_P sc fm) 111 8 (.iload_n 1) (9) := ri_of (by decide +kernel) rfl
theorem wi_111_9 : ri (rt_P sc fm) 111 9 (.invokestatic 655) (12) := ri_of (by decide +kernel) rfl
theorem wm_109 : rx_ml (rt_P sc fm) 109 = 5 := (by decide +kernel : rt_ml 109 = 5)
theorem wm_110 : rx_ml (rt_P sc fm) 110 = 2 := (by decide +kernel : rt_ml 110 = 2)
theorem wr_111 : rx_rt (rt_P sc fm) 111 = (some FieldType.boolean) := (by decide +kernel : rt_rt 111 = (some FieldType.boolean))
/-- MarkHouseModel.isMethodPlace(I)Z -/
def d_111 (n : Nat) (a1 : Int32) (c : cS) : Option (Int32) :=
  Option.bind (d_109 n a1 c) (fun v1 =>
  jn (fun p2 : Int32 =>
    if nb p2 then
    some p2
    else none)
  (fun j21 =>
  jn (fun p4 : Unit =>
    j21 0)
  (fun j20 =>
  if v1 = 0 then
    j20 ()
  else
    Option.bind (d_110 n a1) (fun v5 =>
    if v5 = 4 then
      j21 1
    else
      j20 ()))))
set_option maxRecDepth 100000 in
set_option maxHeartbeats 4000000 in
theorem sp_111 {F Lo n : Nat} {a1 : Int32} {c y : cS} {w : cW} {K : Int32 → Prop} {Q : ((Option Value) ⊕ String) → List va_E → Prop} (hw : rOK fm w) (hF : 1 ≤ F) (hLo : 24 ≤ Lo)  (h : wp (d_111 n a1 c) K) (hQ : ∀ r, K r → Q (.inl (some (.int r))) (hq false c y w)) : rs (rt_P sc fm) 111 F Lo 0 [(0, .ref 174), (1, .int a1)] [] (hq false c y w) Q := by
  unfold d_111 at h
  obtain ⟨lv, elv⟩ : ∃ lv : rx_L, lv = [(0, .ref 174), (1, .int a1)] := ⟨_, rfl⟩
  rw [← elv]
  have l0 : rx_ld lv 0 = some (.ref 174) := by rw [elv]; rfl
  have l1 : rx_ld lv 1 = some (.int a1) := by rw [elv]; rfl
  refine rs_aldn wi_111_0 l0 ?_
  refine rs_ildn wi_111_1 l1 ?_
  refine rs_V wi_111_2 wc_111_652 rfl (dq_isa tf_174_0 wa_15_109) (Nat.le_trans (by decide) hF) (ml_le wm_109 (Nat.le_trans (by decide) hLo)) rfl (sp_109 hw (Nat.le_trans (by decide : 0 ≤ 1 - 1) (Nat.sub_le_sub_right hF 1)) (ml_sub wm_109 (Nat.le_trans (by decide : 0 ≤ 24 - 24) (Nat.sub_le_sub_right hLo 24))) (wp_bind h) (fun v1 h => rs_back1 ?_))
  refine wp_jn (B := fun p2 : Int32 => ∀ lv, rs (rt_P sc fm) 111 F Lo 21 lv [.int p2] (hq false c y w) Q) h (fun p2 h lv => ?_) (fun j21 hj21 h => ?_)
  ·
    obtain ⟨g3, h⟩ := wp_gd h
    exact rs_iret wi_111_21 wr_111 (nb_n g3) (hQ p2 h)
  refine wp_jn (B := fun p4 : Unit => ∀ lv, rs (rt_P sc fm) 111 F Lo 20 lv [] (hq false c y w) Q) h (fun p4 h lv => ?_) (fun j20 hj20 h => ?_)
  ·
    refine rs_pure wi_111_20 rfl ?_
    refine rs_topi (v := 0) (by decide) ?_
    exact hj21 _ h _
  refine rs_ifeq (tg := 20) wi_111_5 ⟨by decide, by decide⟩ (fun q => ?_) (fun q => ?_)
  ·
    have h := wp_pos h q
    exact hj20 _ h _
  ·
    have h := wp_neg h q
    refine rs_ildn wi_111_8 l1 ?_
    refine rs_S wi_111_9 wc_111_655 (Or.inl rfl) rfl (Nat.le_trans (by decide) hF) (ml_le wm_110 (Nat.le_trans (by decide) hLo)) rfl (sp_110 (Nat.le_trans (by decide : 0 ≤ 1 - 1) (Nat.sub_le_sub_right hF 1)) (ml_sub wm_110 (Nat.le_trans (by decide : 0 ≤ 24 - 21) (Nat.sub_le_sub_right hLo 21))) (wp_bind h) (fun v5 h => rs_back1 ?_))
    refine rs_pure wi_111_12 rfl ?_
    refine rs_topi (v := 4) (by decide) ?_
    refine rs_icne (tg := 20) wi_111_13 ⟨by decide, by decide⟩ (fun q => ?_) (fun q => ?_)
    ·
      have h := wp_neg h q
      exact hj20 _ h _
    ·
      have h := wp_pos h q
      refine rs_pure wi_111_16 rfl ?_
      refine rs_topi (v := 1) (by decide) ?_
      refine rs_goto (tg := 21) wi_111_17 ⟨by decide, by decide⟩ ?_
      exact hj21 _ h _
theorem wc_112_652 : rx_ct (rt_P sc fm) 112 652 = some (0, 109, 1) := (by decide +kernel : rt_ct 112 652 = some (0, 109, 1))
theorem wc_112_655 : rx_ct (rt_P sc fm) 112 655 = some (1, 110, 1) := (by decide +kernel : rt_ct 112 655 = some (1, 110, 1))
theorem wi_112_0 : ri (rt_P sc fm) 112 0 (.aload_n 0) (1) := ri_of (by decide +kernel) rfl
theorem wi_112_1 : ri (rt_P sc fm) 112 1 (.iload_n 1) (2) := ri_of (by decide +kernel) rfl
theorem wi_112_12 : ri (rt_P sc fm) 112 12 (.iconst 1) (13) := ri_of (by decide +kernel) rfl
theorem wi_112_13 : ri (rt_P sc fm) 112 13 (.if_icmp .eq 7) (16) := ri_of (by decide +kernel) rfl
theorem wi_112_16 : ri (rt_P sc fm) 112 16 (.iconst 1) (17) := ri_of (by decide +kernel) rfl
theorem wi_112_17 : ri (rt_P sc fm) 112 17 (.goto 4) (20) := ri_of (by decide +kernel) rfl
theorem wi_112_2 : ri (rt_P sc fm) 112 2 (.invokevirtual 652) (5) := ri_of (by decide +kernel) rfl
theorem wi_112_20 : ri (rt_P sc fm) 112 20 (.iconst 0) (21) := ri_of (by decide +kernel) rfl
theorem wi_112_21 : ri (rt_P sc fm) 112 21 (.ireturn) (22) := ri_of (by decide +kernel) rfl
theorem wi_112_5 : ri (rt_P sc fm) 112 5 (.ifCond .eq 15) (8) := ri_of (by decide +kernel) rfl
theorem wi_112_8 : ri (rt_P sc fm) 112 8 (.iload_n 1) (9) := ri_of (by decide +kernel) rfl
theorem wi_112_9 : ri (rt_P sc fm) 112 9 (.invokestatic 655) (12) := ri_of (by decide +kernel) rfl
theorem wr_112 : rx_rt (rt_P sc fm) 112 = (some FieldType.boolean) := (by decide +kernel : rt_rt 112 = (some FieldType.boolean))
/-- MarkHouseModel.isFlowing(I)Z -/
def d_112 (n : Nat) (a1 : Int32) (c : cS) : Option (Int32) :=
  Option.bind (d_109 n a1 c) (fun v1 =>
  jn (fun p2 : Int32 =>
    if nb p2 then
    some p2
    else none)
  (fun j21 =>
  jn (fun p4 : Unit =>
    j21 0)
  (fun j20 =>
  if v1 = 0 then
    j20 ()
  else
    Option.bind (d_110 n a1) (fun v5 =>
    if v5 = 1 then
      j20 ()
    else
      j21 1))))
set_option maxRecDepth 100000 in
set_option maxHeartbeats 4000000 in
theorem sp_112 {F Lo n : Nat} {a1 : Int32} {c y : cS} {w : cW} {K : Int32 → Prop} {Q : ((Option Value) ⊕ String) → List va_E → Prop} (hw : rOK fm w) (hF : 1 ≤ F) (hLo : 24 ≤ Lo)  (h : wp (d_112 n a1 c) K) (hQ : ∀ r, K r → Q (.inl (some (.int r))) (hq false c y w)) : rs (rt_P sc fm) 112 F Lo 0 [(0, .ref 174), (1, .int a1)] [] (hq false c y w) Q := by
  unfold d_112 at h
  obtain ⟨lv, elv⟩ : ∃ lv : rx_L, lv = [(0, .ref 174), (1, .int a1)] := ⟨_, rfl⟩
  rw [← elv]
  have l0 : rx_ld lv 0 = some (.ref 174) := by rw [elv]; rfl
  have l1 : rx_ld lv 1 = some (.int a1) := by rw [elv]; rfl
  refine rs_aldn wi_112_0 l0 ?_
  refine rs_ildn wi_112_1 l1 ?_
  refine rs_V wi_112_2 wc_112_652 rfl (dq_isa tf_174_0 wa_15_109) (Nat.le_trans (by decide) hF) (ml_le wm_109 (Nat.le_trans (by decide) hLo)) rfl (sp_109 hw (Nat.le_trans (by decide : 0 ≤ 1 - 1) (Nat.sub_le_sub_right hF 1)) (ml_sub wm_109 (Nat.le_trans (by decide : 0 ≤ 24 - 24) (Nat.sub_le_sub_right hLo 24))) (wp_bind h) (fun v1 h => rs_back1 ?_))
  refine wp_jn (B := fun p2 : Int32 => ∀ lv, rs (rt_P sc fm) 112 F Lo 21 lv [.int p2] (hq false c y w) Q) h (fun p2 h lv => ?_) (fun j21 hj21 h => ?_)
  ·
    obtain ⟨g3, h⟩ := wp_gd h
    exact rs_iret wi_112_21 wr_112 (nb_n g3) (hQ p2 h)
  refine wp_jn (B := fun p4 : Unit => ∀ lv, rs (rt_P sc fm) 112 F Lo 20 lv [] (hq false c y w) Q) h (fun p4 h lv => ?_) (fun j20 hj20 h => ?_)
  ·
    refine rs_pure wi_112_20 rfl ?_
    refine rs_topi (v := 0) (by decide) ?_
    exact hj21 _ h _
  refine rs_ifeq (tg := 20) wi_112_5 ⟨by decide, by decide⟩ (fun q => ?_) (fun q => ?_)
  ·
    have h := wp_pos h q
    exact hj20 _ h _
  ·
    have h := wp_neg h q
    refine rs_ildn wi_112_8 l1 ?_
    refine rs_S wi_112_9 wc_112_655 (Or.inl rfl) rfl (Nat.le_trans (by decide) hF) (ml_le wm_110 (Nat.le_trans (by decide) hLo)) rfl (sp_110 (Nat.le_trans (by decide : 0 ≤ 1 - 1) (Nat.sub_le_sub_right hF 1)) (ml_sub wm_110 (Nat.le_trans (by decide : 0 ≤ 24 - 21) (Nat.sub_le_sub_right hLo 21))) (wp_bind h) (fun v5 h => rs_back1 ?_))
    refine rs_pure wi_112_12 rfl ?_
    refine rs_topi (v := 1) (by decide) ?_
    refine rs_iceq (tg := 20) wi_112_13 ⟨by decide, by decide⟩ (fun q => ?_) (fun q => ?_)
    ·
      have h := wp_pos h q
      exact hj20 _ h _
    ·
      have h := wp_neg h q
      refine rs_pure wi_112_16 rfl ?_
      refine rs_topi (v := 1) (by decide) ?_
      refine rs_goto (tg := 21) wi_112_17 ⟨by decide, by decide⟩ ?_
      exact hj21 _ h _
theorem wf_113_447 : rx_ft (rt_P sc fm) 113 447 = some (15, 15) := (by decide +kernel : rt_ft 113 447 = some (15, 15))
theorem wf_113_450 : rx_ft (rt_P sc fm) 113 450 = some (15, 24) := (by decide +kernel : rt_ft 113 450 = some (15, 24))
theorem wf_113_634 : rx_ft (rt_P sc fm) 113 634 = some (15, 14) := (by decide +kernel : rt_ft 113 634 = some (15, 14))
theorem wi_113_0 : ri (rt_P sc fm) 113 0 (.aload_n 0) (1) := ri_of (by decide +kernel) rfl
theorem wi_113_1 : ri (rt_P sc fm) 113 1 (.getfield 634) (4) := ri_of (by decide +kernel) rfl
theorem wi_113_11 : ri (rt_P sc fm) 113 11 (.iload_n 1) (12) := ri_of (by decide +kernel) rfl
theorem wi_113_12 : ri (rt_P sc fm) 113 12 (.aload_n 0) (13) := ri_of (by decide +kernel) rfl
theorem wi_113_13 : ri (rt_P sc fm) 113 13 (.getfield 450) (16) := ri_of (by decide +kernel) rfl
theorem wi_113_16 : ri (rt_P sc fm) 113 16 (.if_icmp .lt 20) (19) := ri_of (by decide +kernel) rfl
theorem wi_113_19 : ri (rt_P sc fm) 113 19 (.iload_n 1) (20) := ri_of (by decide +kernel) rfl
theorem wi_113_20 : ri (rt_P sc fm) 113 20 (.bipush 100) (22) := ri_of (by decide +kernel) rfl
theorem wi_113_22 : ri (rt_P sc fm) 113 22 (.if_icmp .lt 18) (25) := ri_of (by decide +kernel) rfl
theorem wi_113_25 : ri (rt_P sc fm) 113 25 (.iload_n 1) (26) := ri_of (by decide +kernel) rfl
theorem wi_113_26 : ri (rt_P sc fm) 113 26 (.bipush 100) (28) := ri_of (by decide +kernel) rfl
theorem wi_113_28 : ri (rt_P sc fm) 113 28 (.aload_n 0) (29) := ri_of (by decide +kernel) rfl
theorem wi_113_29 : ri (rt_P sc fm) 113 29 (.getfield 447) (32) := ri_of (by decide +kernel) rfl
theorem wi_113_32 : ri (rt_P sc fm) 113 32 (.iadd) (33) := ri_of (by decide +kernel) rfl
theorem wi_113_33 : ri (rt_P sc fm) 113 33 (.if_icmp .ge 7) (36) := ri_of (by decide +kernel) rfl
theorem wi_113_36 : ri (rt_P sc fm) 113 36 (.iconst 1) (37) := ri_of (by decide +kernel) rfl
theorem wi_113_37 : ri (rt_P sc fm) 113 37 (.goto 4) (40) := ri_of (by decide +kernel) rfl
theorem wi_113_4 : ri (rt_P sc fm) 113 4 (.ifCond .eq 36) (7) := ri_of (by decide +kernel) rfl
theorem wi_113_40 : ri (rt_P sc fm) 113 40 (.iconst 0) (41) := ri_of (by decide +kernel) rfl
theorem wi_113_41 : ri (rt_P sc fm) 113 41 (.ireturn) (42) := ri_of (by decide +kernel) rfl
theorem wi_113_7 : ri (rt_P sc fm) 113 7 (.iload_n 1) (8) := ri_of (by decide +kernel) rfl
theorem wi_113_8 : ri (rt_P sc fm) 113 8 (.ifCond .lt 11) (11) := ri_of (by decide +kernel) rfl
theorem wr_113 : rx_rt (rt_P sc fm) 113 = (some FieldType.boolean) := (by decide +kernel : rt_rt 113 = (some FieldType.boolean))
/-- MarkHouseModel.isKey(I)Z -/
def d_113 (n : Nat) (a1 : Int32) (c : cS) : Option (Int32) :=
  jn (fun p1 : Int32 =>
    if nb p1 then
    some p1
    else none)
  (fun j41 =>
  jn (fun p3 : Unit =>
    j41 0)
  (fun j40 =>
  if (c.1 174 14) = 0 then
    j40 ()
  else
    jn (fun p4 : Unit =>
      j41 1)
    (fun j36 =>
    jn (fun p5 : Unit =>
      if a1 < 100 then
        j40 ()
      else
        if (100 + (c.1 174 15)) ≤ a1 then
          j40 ()
        else
          j36 ())
    (fun j19 =>
    if a1 < 0 then
      j19 ()
    else
      if a1 < (c.1 174 24) then
        j36 ()
      else
        j19 ()))))
set_option maxRecDepth 100000 in
set_option maxHeartbeats 4000000 in
theorem sp_113 {F Lo n : Nat} {a1 : Int32} {c y : cS} {w : cW} {K : Int32 → Prop} {Q : ((Option Value) ⊕ String) → List va_E → Prop} (hw : rOK fm w) (hF : 0 ≤ F) (hLo : 0 ≤ Lo)  (h : wp (d_113 n a1 c) K) (hQ : ∀ r, K r → Q (.inl (some (.int r))) (hq false c y w)) : rs (rt_P sc fm) 113 F Lo 0 [(0, .ref 174), (1, .int a1)] [] (hq false c y w) Q := by
  unfold d_113 at h
  obtain ⟨lv, elv⟩ : ∃ lv : rx_L, lv = [(0, .ref 174), (1, .int a1)] := ⟨_, rfl⟩
  rw [← elv]
  have l0 : rx_ld lv 0 = some (.ref 174) := by rw [elv]; rfl
  have l1 : rx_ld lv 1 = some (.int a1) := by rw [elv]; rfl
  refine rs_aldn wi_113_0 l0 ?_
  refine dq_gi wi_113_1 wf_113_634 tf_174_14 ?_
  refine wp_jn (B := fun p1 : Int32 => ∀ lv, rs (rt_P sc fm) 113 F Lo 41 lv [.int p1] (hq false c y w) Q) h (fun p1 h lv => ?_) (fun j41 hj41 h => ?_)
  ·
    obtain ⟨g2, h⟩ := wp_gd h
    exact rs_iret wi_113_41 wr_113 (nb_n g2) (hQ p1 h)
  refine wp_jn (B := fun p3 : Unit => ∀ lv, rs (rt_P sc fm) 113 F Lo 40 lv [] (hq false c y w) Q) h (fun p3 h lv => ?_) (fun j40 hj40 h => ?_)
  ·
    refine rs_pure wi_113_40 rfl ?_
    refine rs_topi (v := 0) (by decide) ?_
    exact hj41 _ h _
  refine rs_ifeq (tg := 40) wi_113_4 ⟨by decide, by decide⟩ (fun q => ?_) (fun q => ?_)
  ·
    have h := wp_pos h q
    exact hj40 _ h _
  ·
    have h := wp_neg h q
    refine rs_ildn wi_113_7 l1 ?_
    refine wp_jn (B := fun p4 : Unit => ∀ lv, rs (rt_P sc fm) 113 F Lo 36 lv [] (hq false c y w) Q) h (fun p4 h lv => ?_) (fun j36 hj36 h => ?_)
    ·
      refine rs_pure wi_113_36 rfl ?_
      refine rs_topi (v := 1) (by decide) ?_
      refine rs_goto (tg := 41) wi_113_37 ⟨by decide, by decide⟩ ?_
      exact hj41 _ h _
    refine wp_jn (B := fun p5 : Unit => ∀ lv, rx_ld lv 0 = some (.ref 174) → rx_ld lv 1 = some (.int a1) → rs (rt_P sc fm) 113 F Lo 19 lv [] (hq false c y w) Q) h (fun p5 h lv l0 l1 => ?_) (fun j19 hj19 h => ?_)
    ·
      refine rs_ildn wi_113_19 l1 ?_
      refine rs_pure wi_113_20 rfl ?_
      refine rs_topi (v := 100) (by decide) ?_
      refine rs_iclt (tg := 40) wi_113_22 ⟨by decide, by decide⟩ (fun q => ?_) (fun q => ?_)
      ·
        have h := wp_pos h q
        exact hj40 _ h _
      ·
        have h := wp_neg h q
        refine rs_ildn wi_113_25 l1 ?_
        refine rs_pure wi_113_26 rfl ?_
        refine rs_topi (v := 100) (by decide) ?_
        refine rs_aldn wi_113_28 l0 ?_
        refine dq_gi wi_113_29 wf_113_447 tf_174_15 ?_
        refine rs_pure wi_113_32 rfl ?_
        refine rs_icge (tg := 40) wi_113_33 ⟨by decide, by decide⟩ (fun q => ?_) (fun q => ?_)
        ·
          have h := wp_pos h q
          exact hj40 _ h _
        ·
          have h := wp_neg h q
          exact hj36 _ h _
    refine rs_iflt (tg := 19) wi_113_8 ⟨by decide, by decide⟩ (fun q => ?_) (fun q => ?_)
    ·
      have h := wp_pos h q
      exact hj19 _ h _ l0 l1
    ·
      have h := wp_neg h q
      refine rs_ildn wi_113_11 l1 ?_
      refine rs_aldn wi_113_12 l0 ?_
      refine dq_gi wi_113_13 wf_113_450 tf_174_24 ?_
      refine rs_iclt (tg := 36) wi_113_16 ⟨by decide, by decide⟩ (fun q => ?_) (fun q => ?_)
      ·
        have h := wp_pos h q
        exact hj36 _ h _
      ·
        have h := wp_neg h q
        exact hj19 _ h _ l0 l1
theorem wf_424_119 : rx_ft (rt_P sc fm) 424 119 = some (15, 25) := (by decide +kernel : rt_ft 424 119 = some (15, 25))
theorem wf_424_94 : rx_ft (rt_P sc fm) 424 94 = some (15, 16) := (by decide +kernel : rt_ft 424 94 = some (15, 16))
theorem wi_424_0 : ri (rt_P sc fm) 424 0 (.iload_n 1) (1) := ri_of (by decide +kernel) rfl
theorem wi_424_1 : ri (rt_P sc fm) 424 1 (.bipush 100) (3) := ri_of (by decide +kernel) rfl
theorem wi_424_10 : ri (rt_P sc fm) 424 10 (.iload_n 1) (11) := ri_of (by decide +kernel) rfl
theorem wi_424_11 : ri (rt_P sc fm) 424 11 (.laload) (12) := ri_of (by decide +kernel) rfl
theorem wi_424_12 : ri (rt_P sc fm) 424 12 (.goto 12) (15) := ri_of (by decide +kernel) rfl
theorem wi_424_15 : ri (rt_P sc fm) 424 15 (.aload_n 0) (16) := ri_of (by decide +kernel) rfl
theorem wi_424_16 : ri (rt_P sc fm) 424 16 (.getfield 94) (19) := ri_of (by decide +kernel) rfl
theorem wi_424_19 : ri (rt_P sc fm) 424 19 (.iload_n 1) (20) := ri_of (by decide +kernel) rfl
theorem wi_424_20 : ri (rt_P sc fm) 424 20 (.bipush 100) (22) := ri_of (by decide +kernel) rfl
theorem wi_424_22 : ri (rt_P sc fm) 424 22 (.isub) (23) := ri_of (by decide +kernel) rfl
theorem wi_424_23 : ri (rt_P sc fm) 424 23 (.laload) (24) := ri_of (by decide +kernel) rfl
theorem wi_424_24 : ri (rt_P sc fm) 424 24 (.lreturn) (25) := ri_of (by decide +kernel) rfl
theorem wi_424_3 : ri (rt_P sc fm) 424 3 (.if_icmp .ge 12) (6) := ri_of (by decide +kernel) rfl
theorem wi_424_6 : ri (rt_P sc fm) 424 6 (.aload_n 0) (7) := ri_of (by decide +kernel) rfl
theorem wi_424_7 : ri (rt_P sc fm) 424 7 (.getfield 119) (10) := ri_of (by decide +kernel) rfl
theorem wr_424 : rx_rt (rt_P sc fm) 424 = (some FieldType.long) := (by decide +kernel : rt_rt 424 = (some FieldType.long))
/-- MarkHouseModel.nameOfKey(I)J -/
def d_424 (n : Nat) (a1 : Int32) (c : cS) : Option (Int64) :=
  jn (fun p1 : Int64 =>
    some p1)
  (fun j24 =>
  if 100 ≤ a1 then
    if ib (a1 - 100) 4 then
    j24 (c.2 181 (ix (a1 - 100)))
    else none
  else
    if ib a1 12 then
    j24 (c.2 189 (ix a1))
    else none)
set_option maxRecDepth 100000 in
set_option maxHeartbeats 4000000 in
theorem sp_424 {F Lo n : Nat} {a1 : Int32} {c y : cS} {w : cW} {K : Int64 → Prop} {Q : ((Option Value) ⊕ String) → List va_E → Prop} (hw : rOK fm w) (hF : 0 ≤ F) (hLo : 0 ≤ Lo)  (h : wp (d_424 n a1 c) K) (hQ : ∀ r, K r → Q (.inl (some (.long r))) (hq false c y w)) : rs (rt_P sc fm) 424 F Lo 0 [(0, .ref 174), (1, .int a1)] [] (hq false c y w) Q := by
  unfold d_424 at h
  obtain ⟨lv, elv⟩ : ∃ lv : rx_L, lv = [(0, .ref 174), (1, .int a1)] := ⟨_, rfl⟩
  rw [← elv]
  have l0 : rx_ld lv 0 = some (.ref 174) := by rw [elv]; rfl
  have l1 : rx_ld lv 1 = some (.int a1) := by rw [elv]; rfl
  refine rs_ildn wi_424_0 l1 ?_
  refine rs_pure wi_424_1 rfl ?_
  refine rs_topi (v := 100) (by decide) ?_
  refine wp_jn (B := fun p1 : Int64 => ∀ lv, rs (rt_P sc fm) 424 F Lo 24 lv [.long p1] (hq false c y w) Q) h (fun p1 h lv => ?_) (fun j24 hj24 h => ?_)
  ·
    exact rs_lret wi_424_24 wr_424 (hQ p1 h)
  refine rs_icge (tg := 15) wi_424_3 ⟨by decide, by decide⟩ (fun q => ?_) (fun q => ?_)
  ·
    have h := wp_pos h q
    refine rs_aldn wi_424_15 l0 ?_
    refine dq_gr wi_424_16 wf_424_94 tf_174_16 ?_
    refine rs_ildn wi_424_19 l1 ?_
    refine rs_pure wi_424_20 rfl ?_
    refine rs_topi (v := 100) (by decide) ?_
    refine rs_pure wi_424_22 rfl ?_
    obtain ⟨g2, h⟩ := wp_gd h
    refine dq_lald wi_424_23 t_181 g2 ?_
    exact hj24 _ h _
  ·
    have h := wp_neg h q
    refine rs_aldn wi_424_6 l0 ?_
    refine dq_gr wi_424_7 wf_424_119 tf_174_25 ?_
    refine rs_ildn wi_424_10 l1 ?_
    obtain ⟨g3, h⟩ := wp_gd h
    refine dq_lald wi_424_11 t_189 g3 ?_
    refine rs_goto (tg := 24) wi_424_12 ⟨by decide, by decide⟩ ?_
    exact hj24 _ h _
theorem wc_425_459 : rx_ct (rt_P sc fm) 425 459 = some (0, 372, 1) := (by decide +kernel : rt_ct 425 459 = some (0, 372, 1))
theorem wc_425_462 : rx_ct (rt_P sc fm) 425 462 = some (0, 373, 1) := (by decide +kernel : rt_ct 425 462 = some (0, 373, 1))
theorem wc_425_543 : rx_ct (rt_P sc fm) 425 543 = some (0, 392, 2) := (by decide +kernel : rt_ct 425 543 = some (0, 392, 2))
theorem wc_425_655 : rx_ct (rt_P sc fm) 425 655 = some (1, 110, 1) := (by decide +kernel : rt_ct 425 655 = some (1, 110, 1))
theorem wf_425_137 : rx_ft (rt_P sc fm) 425 137 = some (15, 31) := (by decide +kernel : rt_ft 425 137 = some (15, 31))
theorem wf_425_143 : rx_ft (rt_P sc fm) 425 143 = some (15, 33) := (by decide +kernel : rt_ft 425 143 = some (15, 33))
theorem wf_425_218 : rx_ft (rt_P sc fm) 425 218 = some (15, 60) := (by decide +kernel : rt_ft 425 218 = some (15, 60))
theorem wf_425_221 : rx_ft (rt_P sc fm) 425 221 = some (15, 61) := (by decide +kernel : rt_ft 425 221 = some (15, 61))
theorem wi_425_0 : ri (rt_P sc fm) 425 0 (.aload_n 0) (1) := ri_of (by decide +kernel) rfl
theorem wi_425_1 : ri (rt_P sc fm) 425 1 (.getfield 221) (4) := ri_of (by decide +kernel) rfl
theorem wi_425_10 : ri (rt_P sc fm) 425 10 (.laload) (11) := ri_of (by decide +kernel) rfl
theorem wi_425_102 : ri (rt_P sc fm) 425 102 (.iload_n 1) (103) := ri_of (by decide +kernel) rfl
theorem wi_425_103 : ri (rt_P sc fm) 425 103 (.iaload) (104) := ri_of (by decide +kernel) rfl
theorem wi_425_104 : ri (rt_P sc fm) 425 104 (.if_icmp .ge 36) (107) := ri_of (by decide +kernel) rfl
theorem wi_425_107 : ri (rt_P sc fm) 425 107 (.iload 8) (109) := ri_of (by decide +kernel) rfl
theorem wi_425_109 : ri (rt_P sc fm) 425 109 (.aload_n 0) (110) := ri_of (by decide +kernel) rfl
theorem wi_425_11 : ri (rt_P sc fm) 425 11 (.lstore_n 3) (12) := ri_of (by decide +kernel) rfl
theorem wi_425_110 : ri (rt_P sc fm) 425 110 (.getfield 221) (113) := ri_of (by decide +kernel) rfl
theorem wi_425_113 : ri (rt_P sc fm) 425 113 (.aload_n 0) (114) := ri_of (by decide +kernel) rfl
theorem wi_425_114 : ri (rt_P sc fm) 425 114 (.iload_n 1) (115) := ri_of (by decide +kernel) rfl
theorem wi_425_115 : ri (rt_P sc fm) 425 115 (.iload 9) (117) := ri_of (by decide +kernel) rfl
theorem wi_425_117 : ri (rt_P sc fm) 425 117 (.invokevirtual 543) (120) := ri_of (by decide +kernel) rfl
theorem wi_425_12 : ri (rt_P sc fm) 425 12 (.aload_n 0) (13) := ri_of (by decide +kernel) rfl
theorem wi_425_120 : ri (rt_P sc fm) 425 120 (.laload) (121) := ri_of (by decide +kernel) rfl
theorem wi_425_121 : ri (rt_P sc fm) 425 121 (.lload_n 3) (122) := ri_of (by decide +kernel) rfl
theorem wi_425_122 : ri (rt_P sc fm) 425 122 (.lcmp) (123) := ri_of (by decide +kernel) rfl
theorem wi_425_123 : ri (rt_P sc fm) 425 123 (.ifCond .ne 7) (126) := ri_of (by decide +kernel) rfl
theorem wi_425_126 : ri (rt_P sc fm) 425 126 (.iconst 1) (127) := ri_of (by decide +kernel) rfl
theorem wi_425_127 : ri (rt_P sc fm) 425 127 (.goto 4) (130) := ri_of (by decide +kernel) rfl
theorem wi_425_13 : ri (rt_P sc fm) 425 13 (.lload_n 3) (14) := ri_of (by decide +kernel) rfl
theorem wi_425_130 : ri (rt_P sc fm) 425 130 (.iconst 0) (131) := ri_of (by decide +kernel) rfl
theorem wi_425_131 : ri (rt_P sc fm) 425 131 (.iadd) (132) := ri_of (by decide +kernel) rfl
theorem wi_425_132 : ri (rt_P sc fm) 425 132 (.istore 8) (134) := ri_of (by decide +kernel) rfl
theorem wi_425_134 : ri (rt_P sc fm) 425 134 (.iinc 9 1) (137) := ri_of (by decide +kernel) rfl
theorem wi_425_137 : ri (rt_P sc fm) 425 137 (.goto (-41)) (140) := ri_of (by decide +kernel) rfl
theorem wi_425_14 : ri (rt_P sc fm) 425 14 (.invokevirtual 459) (17) := ri_of (by decide +kernel) rfl
theorem wi_425_140 : ri (rt_P sc fm) 425 140 (.iload 8) (142) := ri_of (by decide +kernel) rfl
theorem wi_425_142 : ri (rt_P sc fm) 425 142 (.iconst 1) (143) := ri_of (by decide +kernel) rfl
theorem wi_425_143 : ri (rt_P sc fm) 425 143 (.if_icmp .ne 7) (146) := ri_of (by decide +kernel) rfl
theorem wi_425_146 : ri (rt_P sc fm) 425 146 (.iconst 1) (147) := ri_of (by decide +kernel) rfl
theorem wi_425_147 : ri (rt_P sc fm) 425 147 (.goto 4) (150) := ri_of (by decide +kernel) rfl
theorem wi_425_150 : ri (rt_P sc fm) 425 150 (.iconst 0) (151) := ri_of (by decide +kernel) rfl
theorem wi_425_151 : ri (rt_P sc fm) 425 151 (.ireturn) (152) := ri_of (by decide +kernel) rfl
theorem wi_425_17 : ri (rt_P sc fm) 425 17 (.istore 5) (19) := ri_of (by decide +kernel) rfl
theorem wi_425_19 : ri (rt_P sc fm) 425 19 (.aload_n 0) (20) := ri_of (by decide +kernel) rfl
theorem wi_425_20 : ri (rt_P sc fm) 425 20 (.lload_n 3) (21) := ri_of (by decide +kernel) rfl
theorem wi_425_21 : ri (rt_P sc fm) 425 21 (.invokevirtual 462) (24) := ri_of (by decide +kernel) rfl
theorem wi_425_24 : ri (rt_P sc fm) 425 24 (.istore 6) (26) := ri_of (by decide +kernel) rfl
theorem wi_425_26 : ri (rt_P sc fm) 425 26 (.iload 5) (28) := ri_of (by decide +kernel) rfl
theorem wi_425_28 : ri (rt_P sc fm) 425 28 (.ifCond .ge 10) (31) := ri_of (by decide +kernel) rfl
theorem wi_425_31 : ri (rt_P sc fm) 425 31 (.iload 6) (33) := ri_of (by decide +kernel) rfl
theorem wi_425_33 : ri (rt_P sc fm) 425 33 (.ifCond .ge 5) (36) := ri_of (by decide +kernel) rfl
theorem wi_425_36 : ri (rt_P sc fm) 425 36 (.iconst 0) (37) := ri_of (by decide +kernel) rfl
theorem wi_425_37 : ri (rt_P sc fm) 425 37 (.ireturn) (38) := ri_of (by decide +kernel) rfl
theorem wi_425_38 : ri (rt_P sc fm) 425 38 (.iload_n 1) (39) := ri_of (by decide +kernel) rfl
theorem wi_425_39 : ri (rt_P sc fm) 425 39 (.invokestatic 655) (42) := ri_of (by decide +kernel) rfl
theorem wi_425_4 : ri (rt_P sc fm) 425 4 (.aload_n 0) (5) := ri_of (by decide +kernel) rfl
theorem wi_425_42 : ri (rt_P sc fm) 425 42 (.istore 7) (44) := ri_of (by decide +kernel) rfl
theorem wi_425_44 : ri (rt_P sc fm) 425 44 (.iload 5) (46) := ri_of (by decide +kernel) rfl
theorem wi_425_46 : ri (rt_P sc fm) 425 46 (.ifCond .lt 12) (49) := ri_of (by decide +kernel) rfl
theorem wi_425_49 : ri (rt_P sc fm) 425 49 (.iload 7) (51) := ri_of (by decide +kernel) rfl
theorem wi_425_5 : ri (rt_P sc fm) 425 5 (.iload_n 1) (6) := ri_of (by decide +kernel) rfl
theorem wi_425_51 : ri (rt_P sc fm) 425 51 (.iconst 1) (52) := ri_of (by decide +kernel) rfl
theorem wi_425_52 : ri (rt_P sc fm) 425 52 (.if_icmp .ne 21) (55) := ri_of (by decide +kernel) rfl
theorem wi_425_55 : ri (rt_P sc fm) 425 55 (.goto 16) (58) := ri_of (by decide +kernel) rfl
theorem wi_425_58 : ri (rt_P sc fm) 425 58 (.aload_n 0) (59) := ri_of (by decide +kernel) rfl
theorem wi_425_59 : ri (rt_P sc fm) 425 59 (.getfield 137) (62) := ri_of (by decide +kernel) rfl
theorem wi_425_6 : ri (rt_P sc fm) 425 6 (.iload_n 2) (7) := ri_of (by decide +kernel) rfl
theorem wi_425_62 : ri (rt_P sc fm) 425 62 (.iload 6) (64) := ri_of (by decide +kernel) rfl
theorem wi_425_64 : ri (rt_P sc fm) 425 64 (.iaload) (65) := ri_of (by decide +kernel) rfl
theorem wi_425_65 : ri (rt_P sc fm) 425 65 (.iload 7) (67) := ri_of (by decide +kernel) rfl
theorem wi_425_67 : ri (rt_P sc fm) 425 67 (.iand) (68) := ri_of (by decide +kernel) rfl
theorem wi_425_68 : ri (rt_P sc fm) 425 68 (.ifCond .ne 5) (71) := ri_of (by decide +kernel) rfl
theorem wi_425_7 : ri (rt_P sc fm) 425 7 (.invokevirtual 543) (10) := ri_of (by decide +kernel) rfl
theorem wi_425_71 : ri (rt_P sc fm) 425 71 (.iconst 0) (72) := ri_of (by decide +kernel) rfl
theorem wi_425_72 : ri (rt_P sc fm) 425 72 (.ireturn) (73) := ri_of (by decide +kernel) rfl
theorem wi_425_73 : ri (rt_P sc fm) 425 73 (.iload 6) (75) := ri_of (by decide +kernel) rfl
theorem wi_425_75 : ri (rt_P sc fm) 425 75 (.ifCond .lt 15) (78) := ri_of (by decide +kernel) rfl
theorem wi_425_78 : ri (rt_P sc fm) 425 78 (.aload_n 0) (79) := ri_of (by decide +kernel) rfl
theorem wi_425_79 : ri (rt_P sc fm) 425 79 (.getfield 143) (82) := ri_of (by decide +kernel) rfl
theorem wi_425_82 : ri (rt_P sc fm) 425 82 (.iload 6) (84) := ri_of (by decide +kernel) rfl
theorem wi_425_84 : ri (rt_P sc fm) 425 84 (.baload) (85) := ri_of (by decide +kernel) rfl
theorem wi_425_85 : ri (rt_P sc fm) 425 85 (.ifCond .eq 5) (88) := ri_of (by decide +kernel) rfl
theorem wi_425_88 : ri (rt_P sc fm) 425 88 (.iconst 1) (89) := ri_of (by decide +kernel) rfl
theorem wi_425_89 : ri (rt_P sc fm) 425 89 (.ireturn) (90) := ri_of (by decide +kernel) rfl
theorem wi_425_90 : ri (rt_P sc fm) 425 90 (.iconst 0) (91) := ri_of (by decide +kernel) rfl
theorem wi_425_91 : ri (rt_P sc fm) 425 91 (.istore 8) (93) := ri_of (by decide +kernel) rfl
theorem wi_425_93 : ri (rt_P sc fm) 425 93 (.iconst 0) (94) := ri_of (by decide +kernel) rfl
theorem wi_425_94 : ri (rt_P sc fm) 425 94 (.istore 9) (96) := ri_of (by decide +kernel) rfl
theorem wi_425_96 : ri (rt_P sc fm) 425 96 (.iload 9) (98) := ri_of (by decide +kernel) rfl
theorem wi_425_98 : ri (rt_P sc fm) 425 98 (.aload_n 0) (99) := ri_of (by decide +kernel) rfl
theorem wi_425_99 : ri (rt_P sc fm) 425 99 (.getfield 218) (102) := ri_of (by decide +kernel) rfl
theorem wr_425 : rx_rt (rt_P sc fm) 425 = (some FieldType.boolean) := (by decide +kernel : rt_rt 425 = (some FieldType.boolean))
/-- MarkHouseModel.doesCount(II)Z -/
def d_425 (n : Nat) (a1 : Int32) (a2 : Int32) (c : cS) : Option (Int32) :=
  Option.bind (d_392 n a1 a2) (fun v1 =>
  if ib v1 24380 then
  lt ((c.2 223 (ix v1)) : Int64) (fun v4 =>
  Option.bind (d_372 n v4 c) (fun v6 =>
  Option.bind (d_373 n v4 c) (fun v8 =>
  jn (fun p10 : Unit =>
    Option.bind (d_110 n a1) (fun v11 =>
    jn (fun p13 : Unit =>
      jn (fun p14 : Unit =>
        Option.bind (whl (R := (Int32)) (fun s17 : Int32 × Int32 =>
          if ib a1 1219 then
          if (c.1 222 (ix a1)) ≤ s17.2 then
            some (.inr s17.1)
          else
            Option.bind (d_392 n a1 s17.2) (fun v19 =>
            if ib v19 24380 then
            jn (fun p21 : Int32 =>
              lt ((s17.1 + p21) : Int32) (fun v23 =>
              lt (s17.2 + 1 : Int32) (fun v26 =>
              some (.inl (v23, v26)))))
            (fun j131 =>
            if (lg_cmp (c.2 223 (ix v19)) v4) = 0 then
              j131 1
            else
              j131 0)
            else none)
          else none) n (0, 0))
        (fun x28 : Int32 =>
          jn (fun p29 : Int32 =>
            if nb p29 then
            some p29
            else none)
          (fun j151 =>
          if x28 = 1 then
            j151 1
          else
            j151 0)))
      (fun j90 =>
      if v8 < 0 then
        j90 ()
      else
        if ib v8 12 then
        if (c.1 197 (ix v8)) = 0 then
          j90 ()
        else
          some 1
        else none))
    (fun j73 =>
    jn (fun p32 : Unit =>
      some 0)
    (fun j71 =>
    if v6 < 0 then
      if ib v8 12 then
      if ((c.1 195 (ix v8)) &&& v11) = 0 then
        j71 ()
      else
        j73 ()
      else none
    else
      if v11 = 1 then
        j71 ()
      else
        j73 ()))))
  (fun j38 =>
  if 0 ≤ v6 then
    j38 ()
  else
    if 0 ≤ v8 then
      j38 ()
    else
      some 0))))
  else none)
set_option maxRecDepth 100000 in
set_option maxHeartbeats 4000000 in
theorem sp_425 {F Lo n : Nat} {a1 : Int32} {a2 : Int32} {c y : cS} {w : cW} {K : Int32 → Prop} {Q : ((Option Value) ⊕ String) → List va_E → Prop} (hw : rOK fm w) (hF : 1 ≤ F) (hLo : 23 ≤ Lo)  (h : wp (d_425 n a1 a2 c) K) (hQ : ∀ r, K r → Q (.inl (some (.int r))) (hq false c y w)) : rs (rt_P sc fm) 425 F Lo 0 [(0, .ref 174), (1, .int a1), (2, .int a2)] [] (hq false c y w) Q := by
  unfold d_425 at h
  obtain ⟨lv, elv⟩ : ∃ lv : rx_L, lv = [(0, .ref 174), (1, .int a1), (2, .int a2)] := ⟨_, rfl⟩
  rw [← elv]
  have l0 : rx_ld lv 0 = some (.ref 174) := by rw [elv]; rfl
  have l1 : rx_ld lv 1 = some (.int a1) := by rw [elv]; rfl
  have l2 : rx_ld lv 2 = some (.int a2) := by rw [elv]; rfl
  refine rs_aldn wi_425_0 l0 ?_
  refine dq_gr wi_425_1 wf_425_221 tf_174_61 ?_
  refine rs_aldn wi_425_4 l0 ?_
  refine rs_ildn wi_425_5 l1 ?_
  refine rs_ildn wi_425_6 l2 ?_
  refine rs_V wi_425_7 wc_425_543 rfl (dq_isa tf_174_0 wa_15_392) (Nat.le_trans (by decide) hF) (ml_le wm_392 (Nat.le_trans (by decide) hLo)) rfl (sp_392 (Nat.le_trans (by decide : 0 ≤ 1 - 1) (Nat.sub_le_sub_right hF 1)) (ml_sub wm_392 (Nat.le_trans (by decide : 0 ≤ 23 - 22) (Nat.sub_le_sub_right hLo 22))) (wp_bind h) (fun v1 h => rs_back1 ?_))
  obtain ⟨g2, h⟩ := wp_gd h
  refine dq_lald wi_425_10 t_223 g2 ?_
  obtain ⟨v4, e5, h⟩ := wp_lt h
  refine rs_topl e5 ?_
  refine dl_lstn wi_425_11 rfl (fun lv l3 t3 => ?_)
  have l0 := t3 _ _ (by decide) (by decide) (Or.inl rfl) l0
  have l1 := t3 _ _ (by decide) (by decide) (Or.inl rfl) l1
  refine rs_aldn wi_425_12 l0 ?_
  refine rs_lldn wi_425_13 l3 ?_
  refine rs_V wi_425_14 wc_425_459 rfl (dq_isa tf_174_0 wa_15_372) (Nat.le_trans (by decide) hF) (ml_le wm_372 (Nat.le_trans (by decide) hLo)) rfl (sp_372 hw (Nat.le_trans (by decide : 0 ≤ 1 - 1) (Nat.sub_le_sub_right hF 1)) (ml_sub wm_372 (Nat.le_trans (by decide : 0 ≤ 23 - 23) (Nat.sub_le_sub_right hLo 23))) (wp_bind h) (fun v6 h => rs_back1 ?_))
  refine dl_ist wi_425_17 rfl (fun lv l5 t7 => ?_)
  have l0 := t7 _ _ (by decide) (Or.inl rfl) l0
  have l1 := t7 _ _ (by decide) (Or.inl rfl) l1
  have l3 := t7 _ _ (by decide) (Or.inr (by decide)) l3
  refine rs_aldn wi_425_19 l0 ?_
  refine rs_lldn wi_425_20 l3 ?_
  refine rs_V wi_425_21 wc_425_462 rfl (dq_isa tf_174_0 wa_15_373) (Nat.le_trans (by decide) hF) (ml_le wm_373 (Nat.le_trans (by decide) hLo)) rfl (sp_373 hw (Nat.le_trans (by decide : 0 ≤ 1 - 1) (Nat.sub_le_sub_right hF 1)) (ml_sub wm_373 (Nat.le_trans (by decide : 0 ≤ 23 - 23) (Nat.sub_le_sub_right hLo 23))) (wp_bind h) (fun v8 h => rs_back1 ?_))
  refine dl_ist wi_425_24 rfl (fun lv l6 t9 => ?_)
  have l0 := t9 _ _ (by decide) (Or.inl rfl) l0
  have l1 := t9 _ _ (by decide) (Or.inl rfl) l1
  have l3 := t9 _ _ (by decide) (Or.inr (by decide)) l3
  have l5 := t9 _ _ (by decide) (Or.inl rfl) l5
  refine rs_ild wi_425_26 l5 ?_
  refine wp_jn (B := fun p10 : Unit => ∀ lv, rx_ld lv 0 = some (.ref 174) → rx_ld lv 1 = some (.int a1) → rx_ld lv 3 = some (.long v4) → rx_ld lv 5 = some (.int v6) → rx_ld lv 6 = some (.int v8) → rs (rt_P sc fm) 425 F Lo 38 lv [] (hq false c y w) Q) h (fun p10 h lv l0 l1 l3 l5 l6 => ?_) (fun j38 hj38 h => ?_)
  ·
    refine rs_ildn wi_425_38 l1 ?_
    refine rs_S wi_425_39 wc_425_655 (Or.inl rfl) rfl (Nat.le_trans (by decide) hF) (ml_le wm_110 (Nat.le_trans (by decide) hLo)) rfl (sp_110 (Nat.le_trans (by decide : 0 ≤ 1 - 1) (Nat.sub_le_sub_right hF 1)) (ml_sub wm_110 (Nat.le_trans (by decide : 0 ≤ 23 - 21) (Nat.sub_le_sub_right hLo 21))) (wp_bind h) (fun v11 h => rs_back1 ?_))
    refine dl_ist wi_425_42 rfl (fun lv l7 t12 => ?_)
    have l0 := t12 _ _ (by decide) (Or.inl rfl) l0
    have l1 := t12 _ _ (by decide) (Or.inl rfl) l1
    have l3 := t12 _ _ (by decide) (Or.inr (by decide)) l3
    have l5 := t12 _ _ (by decide) (Or.inl rfl) l5
    have l6 := t12 _ _ (by decide) (Or.inl rfl) l6
    refine rs_ild wi_425_44 l5 ?_
    refine wp_jn (B := fun p13 : Unit => ∀ lv, rx_ld lv 0 = some (.ref 174) → rx_ld lv 1 = some (.int a1) → rx_ld lv 3 = some (.long v4) → rx_ld lv 6 = some (.int v8) → rs (rt_P sc fm) 425 F Lo 73 lv [] (hq false c y w) Q) h (fun p13 h lv l0 l1 l3 l6 => ?_) (fun j73 hj73 h => ?_)
    ·
      refine rs_ild wi_425_73 l6 ?_
      refine wp_jn (B := fun p14 : Unit => ∀ lv, rx_ld lv 0 = some (.ref 174) → rx_ld lv 1 = some (.int a1) → rx_ld lv 3 = some (.long v4) → rs (rt_P sc fm) 425 F Lo 90 lv [] (hq false c y w) Q) h (fun p14 h lv l0 l1 l3 => ?_) (fun j90 hj90 h => ?_)
      ·
        refine rs_pure wi_425_90 rfl ?_
        refine rs_topi (v := 0) (by decide) ?_
        refine dl_ist wi_425_91 rfl (fun lv l8 t15 => ?_)
        have l0 := t15 _ _ (by decide) (Or.inl rfl) l0
        have l1 := t15 _ _ (by decide) (Or.inl rfl) l1
        have l3 := t15 _ _ (by decide) (Or.inr (by decide)) l3
        refine rs_pure wi_425_93 rfl ?_
        refine rs_topi (v := 0) (by decide) ?_
        refine dl_ist wi_425_94 rfl (fun lv l9 t16 => ?_)
        have l0 := t16 _ _ (by decide) (Or.inl rfl) l0
        have l1 := t16 _ _ (by decide) (Or.inl rfl) l1
        have l3 := t16 _ _ (by decide) (Or.inr (by decide)) l3
        have l8 := t16 _ _ (by decide) (Or.inl rfl) l8
        refine whl_ex (A := fun s17 : Int32 × Int32 => ∀ lv, rx_ld lv 0 = some (.ref 174) → rx_ld lv 1 = some (.int a1) → rx_ld lv 3 = some (.long v4) → rx_ld lv 8 = some (.int s17.1) → rx_ld lv 9 = some (.int s17.2) → rs (rt_P sc fm) 425 F Lo 96 lv [] (hq false c y w) Q) (B := (fun x28 : Int32 => ∀ lv, rx_ld lv 8 = some (.int x28) → rs (rt_P sc fm) 425 F Lo 140 lv [] (hq false c y w) Q)) ?_ ?_ _ _ (wp_bind h) _ l0 l1 l3 l8 l9
        · intro s17 h lv l0 l1 l3 l8 l9
          refine rs_ild wi_425_96 l9 ?_
          refine rs_aldn wi_425_98 l0 ?_
          refine dq_gr wi_425_99 wf_425_218 tf_174_60 ?_
          refine rs_ildn wi_425_102 l1 ?_
          obtain ⟨g18, h⟩ := wp_gd h
          refine dq_iald wi_425_103 t_222 g18 ?_
          refine rs_icge (tg := 140) wi_425_104 ⟨by decide, by decide⟩ (fun q => ?_) (fun q => ?_)
          ·
            have h := wp_pos h q
            exact h _ l8
          ·
            have h := wp_neg h q
            refine rs_ild wi_425_107 l8 ?_
            refine rs_aldn wi_425_109 l0 ?_
            refine dq_gr wi_425_110 wf_425_221 tf_174_61 ?_
            refine rs_aldn wi_425_113 l0 ?_
            refine rs_ildn wi_425_114 l1 ?_
            refine rs_ild wi_425_115 l9 ?_
            refine rs_V wi_425_117 wc_425_543 rfl (dq_isa tf_174_0 wa_15_392) (Nat.le_trans (by decide) hF) (ml_le wm_392 (Nat.le_trans (by decide) hLo)) rfl (sp_392 (Nat.le_trans (by decide : 0 ≤ 1 - 1) (Nat.sub_le_sub_right hF 1)) (ml_sub wm_392 (Nat.le_trans (by decide : 0 ≤ 23 - 22) (Nat.sub_le_sub_right hLo 22))) (wp_bind h) (fun v19 h => rs_back1 ?_))
            obtain ⟨g20, h⟩ := wp_gd h
            refine dq_lald wi_425_120 t_223 g20 ?_
            refine rs_lldn wi_425_121 l3 ?_
            refine rs_pure wi_425_122 rfl ?_
            refine wp_jn (B := fun p21 : Int32 => ∀ lv, rx_ld lv 0 = some (.ref 174) → rx_ld lv 1 = some (.int a1) → rx_ld lv 3 = some (.long v4) → rx_ld lv 9 = some (.int s17.2) → rs (rt_P sc fm) 425 F Lo 131 lv [.int p21, .int s17.1] (hq false c y w) Q) h (fun p21 h lv l0 l1 l3 l9 => ?_) (fun j131 hj131 h => ?_)
            ·
              refine rs_pure wi_425_131 rfl ?_
              obtain ⟨v23, e24, h⟩ := wp_lt h
              refine rs_topi e24 ?_
              refine dl_ist wi_425_132 rfl (fun lv l8 t22 => ?_)
              have l0 := t22 _ _ (by decide) (Or.inl rfl) l0
              have l1 := t22 _ _ (by decide) (Or.inl rfl) l1
              have l3 := t22 _ _ (by decide) (Or.inr (by decide)) l3
              have l9 := t22 _ _ (by decide) (Or.inl rfl) l9
              obtain ⟨v26, e27, h⟩ := wp_lt h
              refine dl_inc wi_425_134 l9 rfl e27 (fun lv l9 t25 => ?_)
              have l0 := t25 _ _ (by decide) (Or.inl rfl) l0
              have l1 := t25 _ _ (by decide) (Or.inl rfl) l1
              have l3 := t25 _ _ (by decide) (Or.inr (by decide)) l3
              have l8 := t25 _ _ (by decide) (Or.inl rfl) l8
              refine rs_goto (tg := 96) wi_425_137 ⟨by decide, by decide⟩ ?_
              exact h _ l0 l1 l3 l8 l9
            refine rs_ifne (tg := 130) wi_425_123 ⟨by decide, by decide⟩ (fun q => ?_) (fun q => ?_)
            ·
              have h := wp_neg h q
              refine rs_pure wi_425_130 rfl ?_
              refine rs_topi (v := 0) (by decide) ?_
              exact hj131 _ h _ l0 l1 l3 l9
            ·
              have h := wp_pos h q
              refine rs_pure wi_425_126 rfl ?_
              refine rs_topi (v := 1) (by decide) ?_
              refine rs_goto (tg := 131) wi_425_127 ⟨by decide, by decide⟩ ?_
              exact hj131 _ h _ l0 l1 l3 l9
        ·
          intro x28 h lv l8
          refine rs_ild wi_425_140 l8 ?_
          refine rs_pure wi_425_142 rfl ?_
          refine rs_topi (v := 1) (by decide) ?_
          refine wp_jn (B := fun p29 : Int32 => ∀ lv, rs (rt_P sc fm) 425 F Lo 151 lv [.int p29] (hq false c y w) Q) h (fun p29 h lv => ?_) (fun j151 hj151 h => ?_)
          ·
            obtain ⟨g30, h⟩ := wp_gd h
            exact rs_iret wi_425_151 wr_425 (nb_n g30) (hQ p29 h)
          refine rs_icne (tg := 150) wi_425_143 ⟨by decide, by decide⟩ (fun q => ?_) (fun q => ?_)
          ·
            have h := wp_neg h q
            refine rs_pure wi_425_150 rfl ?_
            refine rs_topi (v := 0) (by decide) ?_
            exact hj151 _ h _
          ·
            have h := wp_pos h q
            refine rs_pure wi_425_146 rfl ?_
            refine rs_topi (v := 1) (by decide) ?_
            refine rs_goto (tg := 151) wi_425_147 ⟨by decide, by decide⟩ ?_
            exact hj151 _ h _
      refine rs_iflt (tg := 90) wi_425_75 ⟨by decide, by decide⟩ (fun q => ?_) (fun q => ?_)
      ·
        have h := wp_pos h q
        exact hj90 _ h _ l0 l1 l3
      ·
        have h := wp_neg h q
        refine rs_aldn wi_425_78 l0 ?_
        refine dq_gr wi_425_79 wf_425_143 tf_174_33 ?_
        refine rs_ild wi_425_82 l6 ?_
        obtain ⟨g31, h⟩ := wp_gd h
        refine dq_zald wi_425_84 t_197 g31 ?_
        refine rs_ifeq (tg := 90) wi_425_85 ⟨by decide, by decide⟩ (fun q => ?_) (fun q => ?_)
        ·
          have h := wp_pos h q
          exact hj90 _ h _ l0 l1 l3
        ·
          have h := wp_neg h q
          refine rs_pure wi_425_88 rfl ?_
          refine rs_topi (v := 1) (by decide) ?_
          exact rs_iret wi_425_89 wr_425 (nb_n (by decide)) (hQ 1 h)
    refine wp_jn (B := fun p32 : Unit => ∀ lv, rs (rt_P sc fm) 425 F Lo 71 lv [] (hq false c y w) Q) h (fun p32 h lv => ?_) (fun j71 hj71 h => ?_)
    ·
      refine rs_pure wi_425_71 rfl ?_
      refine rs_topi (v := 0) (by decide) ?_
      exact rs_iret wi_425_72 wr_425 (nb_n (by decide)) (hQ 0 h)
    refine rs_iflt (tg := 58) wi_425_46 ⟨by decide, by decide⟩ (fun q => ?_) (fun q => ?_)
    ·
      have h := wp_pos h q
      refine rs_aldn wi_425_58 l0 ?_
      refine dq_gr wi_425_59 wf_425_137 tf_174_31 ?_
      refine rs_ild wi_425_62 l6 ?_
      obtain ⟨g33, h⟩ := wp_gd h
      refine dq_iald wi_425_64 t_195 g33 ?_
      refine rs_ild wi_425_65 l7 ?_
      refine rs_pure wi_425_67 rfl ?_
      refine rs_ifne (tg := 73) wi_425_68 ⟨by decide, by decide⟩ (fun q => ?_) (fun q => ?_)
      ·
        have h := wp_neg h q
        exact hj73 _ h _ l0 l1 l3 l6
      ·
        have h := wp_pos h q
        exact hj71 _ h _
    ·
      have h := wp_neg h q
      refine rs_ild wi_425_49 l7 ?_
      refine rs_pure wi_425_51 rfl ?_
      refine rs_topi (v := 1) (by decide) ?_
      refine rs_icne (tg := 73) wi_425_52 ⟨by decide, by decide⟩ (fun q => ?_) (fun q => ?_)
      ·
        have h := wp_neg h q
        exact hj73 _ h _ l0 l1 l3 l6
      ·
        have h := wp_pos h q
        refine rs_goto (tg := 71) wi_425_55 ⟨by decide, by decide⟩ ?_
        exact hj71 _ h _
  refine rs_ifge (tg := 38) wi_425_28 ⟨by decide, by decide⟩ (fun q => ?_) (fun q => ?_)
  ·
    have h := wp_pos h q
    exact hj38 _ h _ l0 l1 l3 l5 l6
  ·
    have h := wp_neg h q
    refine rs_ild wi_425_31 l6 ?_
    refine rs_ifge (tg := 38) wi_425_33 ⟨by decide, by decide⟩ (fun q => ?_) (fun q => ?_)
    ·
      have h := wp_pos h q
      exact hj38 _ h _ l0 l1 l3 l5 l6
    ·
      have h := wp_neg h q
      refine rs_pure wi_425_36 rfl ?_
      refine rs_topi (v := 0) (by decide) ?_
      exact rs_iret wi_425_37 wr_425 (nb_n (by decide)) (hQ 0 h)
theorem t_232 : ta false 232 0 12 := ⟨rfl, by decide, by decide⟩
theorem tf_174_72 : fo false 174 15 72 (.ref 232) := ⟨_, rfl, rfl, by decide, by decide⟩
theorem tf_174_73 : fo false 174 15 73 (.long 0) := ⟨_, rfl, rfl, by decide, by decide⟩
theorem wc_426_462 : rx_ct (rt_P sc fm) 426 462 = some (0, 373, 1) := (by decide +kernel : rt_ct 426 462 = some (0, 373, 1))
theorem wc_426_543 : rx_ct (rt_P sc fm) 426 543 = some (0, 392, 2) := (by decide +kernel : rt_ct 426 543 = some (0, 392, 2))
theorem wf_426_218 : rx_ft (rt_P sc fm) 426 218 = some (15, 60) := (by decide +kernel : rt_ft 426 218 = some (15, 60))
theorem wf_426_221 : rx_ft (rt_P sc fm) 426 221 = some (15, 61) := (by decide +kernel : rt_ft 426 221 = some (15, 61))
theorem wf_426_249 : rx_ft (rt_P sc fm) 426 249 = some (15, 72) := (by decide +kernel : rt_ft 426 249 = some (15, 72))
theorem wf_426_450 : rx_ft (rt_P sc fm) 426 450 = some (15, 24) := (by decide +kernel : rt_ft 426 450 = some (15, 24))
theorem wi_426_0 : ri (rt_P sc fm) 426 0 (.aload_n 0) (1) := ri_of (by decide +kernel) rfl
theorem wi_426_1 : ri (rt_P sc fm) 426 1 (.lload_n 1) (2) := ri_of (by decide +kernel) rfl
theorem wi_426_100 : ri (rt_P sc fm) 426 100 (.iload 4) (102) := ri_of (by decide +kernel) rfl
theorem wi_426_102 : ri (rt_P sc fm) 426 102 (.iaload) (103) := ri_of (by decide +kernel) rfl
theorem wi_426_103 : ri (rt_P sc fm) 426 103 (.if_icmp .ge 55) (106) := ri_of (by decide +kernel) rfl
theorem wi_426_106 : ri (rt_P sc fm) 426 106 (.aload_n 0) (107) := ri_of (by decide +kernel) rfl
theorem wi_426_107 : ri (rt_P sc fm) 426 107 (.getfield 249) (110) := ri_of (by decide +kernel) rfl
theorem wi_426_110 : ri (rt_P sc fm) 426 110 (.iload_n 3) (111) := ri_of (by decide +kernel) rfl
theorem wi_426_111 : ri (rt_P sc fm) 426 111 (.iaload) (112) := ri_of (by decide +kernel) rfl
theorem wi_426_112 : ri (rt_P sc fm) 426 112 (.ifCond .ge 46) (115) := ri_of (by decide +kernel) rfl
theorem wi_426_115 : ri (rt_P sc fm) 426 115 (.aload_n 0) (116) := ri_of (by decide +kernel) rfl
theorem wi_426_116 : ri (rt_P sc fm) 426 116 (.aload_n 0) (117) := ri_of (by decide +kernel) rfl
theorem wi_426_117 : ri (rt_P sc fm) 426 117 (.getfield 221) (120) := ri_of (by decide +kernel) rfl
theorem wi_426_12 : ri (rt_P sc fm) 426 12 (.if_icmp .ge 152) (15) := ri_of (by decide +kernel) rfl
theorem wi_426_120 : ri (rt_P sc fm) 426 120 (.aload_n 0) (121) := ri_of (by decide +kernel) rfl
theorem wi_426_121 : ri (rt_P sc fm) 426 121 (.iload 4) (123) := ri_of (by decide +kernel) rfl
theorem wi_426_123 : ri (rt_P sc fm) 426 123 (.iload 5) (125) := ri_of (by decide +kernel) rfl
theorem wi_426_125 : ri (rt_P sc fm) 426 125 (.invokevirtual 543) (128) := ri_of (by decide +kernel) rfl
theorem wi_426_128 : ri (rt_P sc fm) 426 128 (.laload) (129) := ri_of (by decide +kernel) rfl
theorem wi_426_129 : ri (rt_P sc fm) 426 129 (.invokevirtual 462) (132) := ri_of (by decide +kernel) rfl
theorem wi_426_132 : ri (rt_P sc fm) 426 132 (.istore 6) (134) := ri_of (by decide +kernel) rfl
theorem wi_426_134 : ri (rt_P sc fm) 426 134 (.iload 6) (136) := ri_of (by decide +kernel) rfl
theorem wi_426_136 : ri (rt_P sc fm) 426 136 (.ifCond .lt 16) (139) := ri_of (by decide +kernel) rfl
theorem wi_426_139 : ri (rt_P sc fm) 426 139 (.aload_n 0) (140) := ri_of (by decide +kernel) rfl
theorem wi_426_140 : ri (rt_P sc fm) 426 140 (.getfield 249) (143) := ri_of (by decide +kernel) rfl
theorem wi_426_143 : ri (rt_P sc fm) 426 143 (.iload_n 3) (144) := ri_of (by decide +kernel) rfl
theorem wi_426_144 : ri (rt_P sc fm) 426 144 (.aload_n 0) (145) := ri_of (by decide +kernel) rfl
theorem wi_426_145 : ri (rt_P sc fm) 426 145 (.getfield 249) (148) := ri_of (by decide +kernel) rfl
theorem wi_426_148 : ri (rt_P sc fm) 426 148 (.iload 6) (150) := ri_of (by decide +kernel) rfl
theorem wi_426_15 : ri (rt_P sc fm) 426 15 (.sipush 1200) (18) := ri_of (by decide +kernel) rfl
theorem wi_426_150 : ri (rt_P sc fm) 426 150 (.iaload) (151) := ri_of (by decide +kernel) rfl
theorem wi_426_151 : ri (rt_P sc fm) 426 151 (.iastore) (152) := ri_of (by decide +kernel) rfl
theorem wi_426_152 : ri (rt_P sc fm) 426 152 (.iinc 5 1) (155) := ri_of (by decide +kernel) rfl
theorem wi_426_155 : ri (rt_P sc fm) 426 155 (.goto (-61)) (158) := ri_of (by decide +kernel) rfl
theorem wi_426_158 : ri (rt_P sc fm) 426 158 (.iinc 3 1) (161) := ri_of (by decide +kernel) rfl
theorem wi_426_161 : ri (rt_P sc fm) 426 161 (.goto (-154)) (164) := ri_of (by decide +kernel) rfl
theorem wi_426_164 : ri (rt_P sc fm) 426 164 (.return_) (165) := ri_of (by decide +kernel) rfl
theorem wi_426_18 : ri (rt_P sc fm) 426 18 (.iload_n 3) (19) := ri_of (by decide +kernel) rfl
theorem wi_426_19 : ri (rt_P sc fm) 426 19 (.iadd) (20) := ri_of (by decide +kernel) rfl
theorem wi_426_2 : ri (rt_P sc fm) 426 2 (.putfield 664) (5) := ri_of (by decide +kernel) rfl
theorem wi_426_20 : ri (rt_P sc fm) 426 20 (.istore 4) (22) := ri_of (by decide +kernel) rfl
theorem wi_426_22 : ri (rt_P sc fm) 426 22 (.aload_n 0) (23) := ri_of (by decide +kernel) rfl
theorem wi_426_23 : ri (rt_P sc fm) 426 23 (.getfield 249) (26) := ri_of (by decide +kernel) rfl
theorem wi_426_26 : ri (rt_P sc fm) 426 26 (.iload_n 3) (27) := ri_of (by decide +kernel) rfl
theorem wi_426_27 : ri (rt_P sc fm) 426 27 (.iconst (-1)) (28) := ri_of (by decide +kernel) rfl
theorem wi_426_28 : ri (rt_P sc fm) 426 28 (.iastore) (29) := ri_of (by decide +kernel) rfl
theorem wi_426_29 : ri (rt_P sc fm) 426 29 (.iconst 0) (30) := ri_of (by decide +kernel) rfl
theorem wi_426_30 : ri (rt_P sc fm) 426 30 (.istore 5) (32) := ri_of (by decide +kernel) rfl
theorem wi_426_32 : ri (rt_P sc fm) 426 32 (.iload 5) (34) := ri_of (by decide +kernel) rfl
theorem wi_426_34 : ri (rt_P sc fm) 426 34 (.aload_n 0) (35) := ri_of (by decide +kernel) rfl
theorem wi_426_35 : ri (rt_P sc fm) 426 35 (.getfield 218) (38) := ri_of (by decide +kernel) rfl
theorem wi_426_38 : ri (rt_P sc fm) 426 38 (.iload 4) (40) := ri_of (by decide +kernel) rfl
theorem wi_426_40 : ri (rt_P sc fm) 426 40 (.iaload) (41) := ri_of (by decide +kernel) rfl
theorem wi_426_41 : ri (rt_P sc fm) 426 41 (.if_icmp .ge 50) (44) := ri_of (by decide +kernel) rfl
theorem wi_426_44 : ri (rt_P sc fm) 426 44 (.aload_n 0) (45) := ri_of (by decide +kernel) rfl
theorem wi_426_45 : ri (rt_P sc fm) 426 45 (.getfield 249) (48) := ri_of (by decide +kernel) rfl
theorem wi_426_48 : ri (rt_P sc fm) 426 48 (.iload_n 3) (49) := ri_of (by decide +kernel) rfl
theorem wi_426_49 : ri (rt_P sc fm) 426 49 (.iaload) (50) := ri_of (by decide +kernel) rfl
theorem wi_426_5 : ri (rt_P sc fm) 426 5 (.iconst 0) (6) := ri_of (by decide +kernel) rfl
theorem wi_426_50 : ri (rt_P sc fm) 426 50 (.ifCond .ge 41) (53) := ri_of (by decide +kernel) rfl
theorem wi_426_53 : ri (rt_P sc fm) 426 53 (.aload_n 0) (54) := ri_of (by decide +kernel) rfl
theorem wi_426_54 : ri (rt_P sc fm) 426 54 (.getfield 221) (57) := ri_of (by decide +kernel) rfl
theorem wi_426_57 : ri (rt_P sc fm) 426 57 (.aload_n 0) (58) := ri_of (by decide +kernel) rfl
theorem wi_426_58 : ri (rt_P sc fm) 426 58 (.iload 4) (60) := ri_of (by decide +kernel) rfl
theorem wi_426_6 : ri (rt_P sc fm) 426 6 (.istore_n 3) (7) := ri_of (by decide +kernel) rfl
theorem wi_426_60 : ri (rt_P sc fm) 426 60 (.iload 5) (62) := ri_of (by decide +kernel) rfl
theorem wi_426_62 : ri (rt_P sc fm) 426 62 (.invokevirtual 543) (65) := ri_of (by decide +kernel) rfl
theorem wi_426_65 : ri (rt_P sc fm) 426 65 (.laload) (66) := ri_of (by decide +kernel) rfl
theorem wi_426_66 : ri (rt_P sc fm) 426 66 (.lload_n 1) (67) := ri_of (by decide +kernel) rfl
theorem wi_426_67 : ri (rt_P sc fm) 426 67 (.lcmp) (68) := ri_of (by decide +kernel) rfl
theorem wi_426_68 : ri (rt_P sc fm) 426 68 (.ifCond .ne 17) (71) := ri_of (by decide +kernel) rfl
theorem wi_426_7 : ri (rt_P sc fm) 426 7 (.iload_n 3) (8) := ri_of (by decide +kernel) rfl
theorem wi_426_71 : ri (rt_P sc fm) 426 71 (.aload_n 0) (72) := ri_of (by decide +kernel) rfl
theorem wi_426_72 : ri (rt_P sc fm) 426 72 (.getfield 249) (75) := ri_of (by decide +kernel) rfl
theorem wi_426_75 : ri (rt_P sc fm) 426 75 (.iload_n 3) (76) := ri_of (by decide +kernel) rfl
theorem wi_426_76 : ri (rt_P sc fm) 426 76 (.aload_n 0) (77) := ri_of (by decide +kernel) rfl
theorem wi_426_77 : ri (rt_P sc fm) 426 77 (.iload 4) (79) := ri_of (by decide +kernel) rfl
theorem wi_426_79 : ri (rt_P sc fm) 426 79 (.iload 5) (81) := ri_of (by decide +kernel) rfl
theorem wi_426_8 : ri (rt_P sc fm) 426 8 (.aload_n 0) (9) := ri_of (by decide +kernel) rfl
theorem wi_426_81 : ri (rt_P sc fm) 426 81 (.invokevirtual 543) (84) := ri_of (by decide +kernel) rfl
theorem wi_426_84 : ri (rt_P sc fm) 426 84 (.iastore) (85) := ri_of (by decide +kernel) rfl
theorem wi_426_85 : ri (rt_P sc fm) 426 85 (.iinc 5 1) (88) := ri_of (by decide +kernel) rfl
theorem wi_426_88 : ri (rt_P sc fm) 426 88 (.goto (-56)) (91) := ri_of (by decide +kernel) rfl
theorem wi_426_9 : ri (rt_P sc fm) 426 9 (.getfield 450) (12) := ri_of (by decide +kernel) rfl
theorem wi_426_91 : ri (rt_P sc fm) 426 91 (.iconst 0) (92) := ri_of (by decide +kernel) rfl
theorem wi_426_92 : ri (rt_P sc fm) 426 92 (.istore 5) (94) := ri_of (by decide +kernel) rfl
theorem wi_426_94 : ri (rt_P sc fm) 426 94 (.iload 5) (96) := ri_of (by decide +kernel) rfl
theorem wi_426_96 : ri (rt_P sc fm) 426 96 (.aload_n 0) (97) := ri_of (by decide +kernel) rfl
theorem wi_426_97 : ri (rt_P sc fm) 426 97 (.getfield 218) (100) := ri_of (by decide +kernel) rfl
theorem wp_426_664 : rx_pt (rt_P sc fm) 426 664 = some (15, 73, .long) := (by decide +kernel : rt_pt 426 664 = some (15, 73, .long))
theorem wr_426 : rx_rt (rt_P sc fm) 426 = none := (by decide +kernel : rt_rt 426 = none)
/-- MarkHouseModel.findGiven(J)V -/
def d_426 (n : Nat) (a1 : Int64) (c : cS) : Option (cS) :=
  lt (pL c 174 73 a1) (fun c1 =>
  Option.bind (whl (R := (cS)) (fun s4 : Int32 × cS =>
    if (s4.2.1 174 24) ≤ s4.1 then
      some (.inr s4.2)
    else
      lt ((1200 + s4.1) : Int32) (fun v6 =>
      if ib s4.1 12 then
      lt (pI s4.2 232 (ix s4.1) (-1)) (fun c9 =>
      Option.bind (whl (R := (cS)) (fun s12 : Int32 × cS =>
        if ib v6 1219 then
        if (s12.2.1 222 (ix v6)) ≤ s12.1 then
          some (.inr s12.2)
        else
          if ib s4.1 12 then
          if 0 ≤ (s12.2.1 232 (ix s4.1)) then
            some (.inr s12.2)
          else
            Option.bind (d_392 n v6 s12.1) (fun v15 =>
            if ib v15 24380 then
            jn (fun p17 : cS =>
              lt (s12.1 + 1 : Int32) (fun v19 =>
              some (.inl (v19, p17))))
            (fun j85 =>
            if (lg_cmp (s12.2.2 223 (ix v15)) a1) = 0 then
              Option.bind (d_392 n v6 s12.1) (fun v21 =>
              if ib s4.1 12 then
              lt (pI s12.2 232 (ix s4.1) v21) (fun c23 =>
              j85 c23)
              else none)
            else
              j85 s12.2)
            else none)
          else none
        else none) n (0, c9))
      (fun x25 : cS =>
        Option.bind (whl (R := (cS)) (fun s27 : Int32 × cS =>
          if ib v6 1219 then
          if (s27.2.1 222 (ix v6)) ≤ s27.1 then
            some (.inr s27.2)
          else
            if ib s4.1 12 then
            if 0 ≤ (s27.2.1 232 (ix s4.1)) then
              some (.inr s27.2)
            else
              Option.bind (d_392 n v6 s27.1) (fun v30 =>
              if ib v30 24380 then
              Option.bind (d_373 n (s27.2.2 223 (ix v30)) s27.2) (fun v32 =>
              jn (fun p34 : cS =>
                lt (s27.1 + 1 : Int32) (fun v36 =>
                some (.inl (v36, p34))))
              (fun j152 =>
              if v32 < 0 then
                j152 s27.2
              else
                if ib v32 12 then
                if ib s4.1 12 then
                lt (pI s27.2 232 (ix s4.1) (s27.2.1 232 (ix v32))) (fun c40 =>
                j152 c40)
                else none
                else none))
              else none)
            else none
          else none) n (0, x25))
        (fun x42 : cS =>
          lt (s4.1 + 1 : Int32) (fun v44 =>
          some (.inl (v44, x42))))))
      else none)) n (0, c1))
  (fun x46 : cS =>
    some x46))
set_option maxRecDepth 100000 in
set_option maxHeartbeats 4000000 in
theorem sp_426 {F Lo n : Nat} {a1 : Int64} {c y : cS} {w : cW} {K : cS → Prop} {Q : ((Option Value) ⊕ String) → List va_E → Prop} (hw : rOK fm w) (hF : 1 ≤ F) (hLo : 23 ≤ Lo)  (h : wp (d_426 n a1 c) K) (hQ : ∀ r, K r → Q (.inl none) (hq false r y w)) : rs (rt_P sc fm) 426 F Lo 0 [(0, .ref 174), (1, .long a1)] [] (hq false c y w) Q := by
  unfold d_426 at h
  obtain ⟨lv, elv⟩ : ∃ lv : rx_L, lv = [(0, .ref 174), (1, .long a1)] := ⟨_, rfl⟩
  rw [← elv]
  have l0 : rx_ld lv 0 = some (.ref 174) := by rw [elv]; rfl
  have l1 : rx_ld lv 1 = some (.long a1) := by rw [elv]; rfl
  refine rs_aldn wi_426_0 l0 ?_
  refine rs_lldn wi_426_1 l1 ?_
  obtain ⟨c1, e2, h⟩ := wp_lt h
  refine dq_pl wi_426_2 wp_426_664 tf_174_73 rfl rfl e2 ?_
  refine rs_pure wi_426_5 rfl ?_
  refine rs_topi (v := 0) (by decide) ?_
  refine dl_istn wi_426_6 rfl (fun lv l3 t3 => ?_)
  have l0 := t3 _ _ (by decide) (Or.inl rfl) l0
  have l1 := t3 _ _ (by decide) (Or.inr (by decide)) l1
  refine whl_ex (A := fun s4 : Int32 × cS => ∀ lv, rx_ld lv 0 = some (.ref 174) → rx_ld lv 1 = some (.long a1) → rx_ld lv 3 = some (.int s4.1) → rs (rt_P sc fm) 426 F Lo 7 lv [] (hq false s4.2 y w) Q) (B := (fun x46 : cS => ∀ lv, rs (rt_P sc fm) 426 F Lo 164 lv [] (hq false x46 y w) Q)) ?_ ?_ _ _ (wp_bind h) _ l0 l1 l3
  · intro s4 h lv l0 l1 l3
    refine rs_ildn wi_426_7 l3 ?_
    refine rs_aldn wi_426_8 l0 ?_
    refine dq_gi wi_426_9 wf_426_450 tf_174_24 ?_
    refine rs_icge (tg := 164) wi_426_12 ⟨by decide, by decide⟩ (fun q => ?_) (fun q => ?_)
    ·
      have h := wp_pos h q
      exact h _
    ·
      have h := wp_neg h q
      refine rs_pure wi_426_15 rfl ?_
      refine rs_topi (v := 1200) (by decide) ?_
      refine rs_ildn wi_426_18 l3 ?_
      refine rs_pure wi_426_19 rfl ?_
      obtain ⟨v6, e7, h⟩ := wp_lt h
      refine rs_topi e7 ?_
      refine dl_ist wi_426_20 rfl (fun lv l4 t5 => ?_)
      have l0 := t5 _ _ (by decide) (Or.inl rfl) l0
      have l1 := t5 _ _ (by decide) (Or.inr (by decide)) l1
      have l3 := t5 _ _ (by decide) (Or.inl rfl) l3
      refine rs_aldn wi_426_22 l0 ?_
      refine dq_gr wi_426_23 wf_426_249 tf_174_72 ?_
      refine rs_ildn wi_426_26 l3 ?_
      refine rs_pure wi_426_27 rfl ?_
      refine rs_topi (v := (-1)) (by decide) ?_
      obtain ⟨g8, h⟩ := wp_gd h
      obtain ⟨c9, e10, h⟩ := wp_lt h
      refine dq_iast wi_426_28 t_232 g8 e10 ?_
      refine rs_pure wi_426_29 rfl ?_
      refine rs_topi (v := 0) (by decide) ?_
      refine dl_ist wi_426_30 rfl (fun lv l5 t11 => ?_)
      have l0 := t11 _ _ (by decide) (Or.inl rfl) l0
      have l1 := t11 _ _ (by decide) (Or.inr (by decide)) l1
      have l3 := t11 _ _ (by decide) (Or.inl rfl) l3
      have l4 := t11 _ _ (by decide) (Or.inl rfl) l4
      refine whl_ex (A := fun s12 : Int32 × cS => ∀ lv, rx_ld lv 0 = some (.ref 174) → rx_ld lv 1 = some (.long a1) → rx_ld lv 3 = some (.int s4.1) → rx_ld lv 4 = some (.int v6) → rx_ld lv 5 = some (.int s12.1) → rs (rt_P sc fm) 426 F Lo 32 lv [] (hq false s12.2 y w) Q) (B := (fun x25 : cS => ∀ lv, rx_ld lv 0 = some (.ref 174) → rx_ld lv 1 = some (.long a1) → rx_ld lv 3 = some (.int s4.1) → rx_ld lv 4 = some (.int v6) → rs (rt_P sc fm) 426 F Lo 91 lv [] (hq false x25 y w) Q)) ?_ ?_ _ _ (wp_bind h) _ l0 l1 l3 l4 l5
      · intro s12 h lv l0 l1 l3 l4 l5
        refine rs_ild wi_426_32 l5 ?_
        refine rs_aldn wi_426_34 l0 ?_
        refine dq_gr wi_426_35 wf_426_218 tf_174_60 ?_
        refine rs_ild wi_426_38 l4 ?_
        obtain ⟨g13, h⟩ := wp_gd h
        refine dq_iald wi_426_40 t_222 g13 ?_
        refine rs_icge (tg := 91) wi_426_41 ⟨by decide, by decide⟩ (fun q => ?_) (fun q => ?_)
        ·
          have h := wp_pos h q
          exact h _ l0 l1 l3 l4
        ·
          have h := wp_neg h q
          refine rs_aldn wi_426_44 l0 ?_
          refine dq_gr wi_426_45 wf_426_249 tf_174_72 ?_
          refine rs_ildn wi_426_48 l3 ?_
          obtain ⟨g14, h⟩ := wp_gd h
          refine dq_iald wi_426_49 t_232 g14 ?_
          refine rs_ifge (tg := 91) wi_426_50 ⟨by decide, by decide⟩ (fun q => ?_) (fun q => ?_)
          ·
            have h := wp_pos h q
            exact h _ l0 l1 l3 l4
          ·
            have h := wp_neg h q
            refine rs_aldn wi_426_53 l0 ?_
            refine dq_gr wi_426_54 wf_426_221 tf_174_61 ?_
            refine rs_aldn wi_426_57 l0 ?_
            refine rs_ild wi_426_58 l4 ?_
            refine rs_ild wi_426_60 l5 ?_
            refine rs_V wi_426_62 wc_426_543 rfl (dq_isa tf_174_0 wa_15_392) (Nat.le_trans (by decide) hF) (ml_le wm_392 (Nat.le_trans (by decide) hLo)) rfl (sp_392 (Nat.le_trans (by decide : 0 ≤ 1 - 1) (Nat.sub_le_sub_right hF 1)) (ml_sub wm_392 (Nat.le_trans (by decide : 0 ≤ 23 - 22) (Nat.sub_le_sub_right hLo 22))) (wp_bind h) (fun v15 h => rs_back1 ?_))
            obtain ⟨g16, h⟩ := wp_gd h
            refine dq_lald wi_426_65 t_223 g16 ?_
            refine rs_lldn wi_426_66 l1 ?_
            refine rs_pure wi_426_67 rfl ?_
            refine wp_jn (B := fun p17 : cS => ∀ lv, rx_ld lv 0 = some (.ref 174) → rx_ld lv 1 = some (.long a1) → rx_ld lv 3 = some (.int s4.1) → rx_ld lv 4 = some (.int v6) → rx_ld lv 5 = some (.int s12.1) → rs (rt_P sc fm) 426 F Lo 85 lv [] (hq false p17 y w) Q) h (fun p17 h lv l0 l1 l3 l4 l5 => ?_) (fun j85 hj85 h => ?_)
            ·
              obtain ⟨v19, e20, h⟩ := wp_lt h
              refine dl_inc wi_426_85 l5 rfl e20 (fun lv l5 t18 => ?_)
              have l0 := t18 _ _ (by decide) (Or.inl rfl) l0
              have l1 := t18 _ _ (by decide) (Or.inr (by decide)) l1
              have l3 := t18 _ _ (by decide) (Or.inl rfl) l3
              have l4 := t18 _ _ (by decide) (Or.inl rfl) l4
              refine rs_goto (tg := 32) wi_426_88 ⟨by decide, by decide⟩ ?_
              exact h _ l0 l1 l3 l4 l5
            refine rs_ifne (tg := 85) wi_426_68 ⟨by decide, by decide⟩ (fun q => ?_) (fun q => ?_)
            ·
              have h := wp_neg h q
              exact hj85 _ h _ l0 l1 l3 l4 l5
            ·
              have h := wp_pos h q
              refine rs_aldn wi_426_71 l0 ?_
              refine dq_gr wi_426_72 wf_426_249 tf_174_72 ?_
              refine rs_ildn wi_426_75 l3 ?_
              refine rs_aldn wi_426_76 l0 ?_
              refine rs_ild wi_426_77 l4 ?_
              refine rs_ild wi_426_79 l5 ?_
              refine rs_V wi_426_81 wc_426_543 rfl (dq_isa tf_174_0 wa_15_392) (Nat.le_trans (by decide) hF) (ml_le wm_392 (Nat.le_trans (by decide) hLo)) rfl (sp_392 (Nat.le_trans (by decide : 0 ≤ 1 - 1) (Nat.sub_le_sub_right hF 1)) (ml_sub wm_392 (Nat.le_trans (by decide : 0 ≤ 23 - 22) (Nat.sub_le_sub_right hLo 22))) (wp_bind h) (fun v21 h => rs_back1 ?_))
              obtain ⟨g22, h⟩ := wp_gd h
              obtain ⟨c23, e24, h⟩ := wp_lt h
              refine dq_iast wi_426_84 t_232 g22 e24 ?_
              exact hj85 _ h _ l0 l1 l3 l4 l5
      ·
        intro x25 h lv l0 l1 l3 l4
        refine rs_pure wi_426_91 rfl ?_
        refine rs_topi (v := 0) (by decide) ?_
        refine dl_ist wi_426_92 rfl (fun lv l5 t26 => ?_)
        have l0 := t26 _ _ (by decide) (Or.inl rfl) l0
        have l1 := t26 _ _ (by decide) (Or.inr (by decide)) l1
        have l3 := t26 _ _ (by decide) (Or.inl rfl) l3
        have l4 := t26 _ _ (by decide) (Or.inl rfl) l4
        refine whl_ex (A := fun s27 : Int32 × cS => ∀ lv, rx_ld lv 0 = some (.ref 174) → rx_ld lv 1 = some (.long a1) → rx_ld lv 3 = some (.int s4.1) → rx_ld lv 4 = some (.int v6) → rx_ld lv 5 = some (.int s27.1) → rs (rt_P sc fm) 426 F Lo 94 lv [] (hq false s27.2 y w) Q) (B := (fun x42 : cS => ∀ lv, rx_ld lv 0 = some (.ref 174) → rx_ld lv 1 = some (.long a1) → rx_ld lv 3 = some (.int s4.1) → rs (rt_P sc fm) 426 F Lo 158 lv [] (hq false x42 y w) Q)) ?_ ?_ _ _ (wp_bind h) _ l0 l1 l3 l4 l5
        · intro s27 h lv l0 l1 l3 l4 l5
          refine rs_ild wi_426_94 l5 ?_
          refine rs_aldn wi_426_96 l0 ?_
          refine dq_gr wi_426_97 wf_426_218 tf_174_60 ?_
          refine rs_ild wi_426_100 l4 ?_
          obtain ⟨g28, h⟩ := wp_gd h
          refine dq_iald wi_426_102 t_222 g28 ?_
          refine rs_icge (tg := 158) wi_426_103 ⟨by decide, by decide⟩ (fun q => ?_) (fun q => ?_)
          ·
            have h := wp_pos h q
            exact h _ l0 l1 l3
          ·
            have h := wp_neg h q
            refine rs_aldn wi_426_106 l0 ?_
            refine dq_gr wi_426_107 wf_426_249 tf_174_72 ?_
            refine rs_ildn wi_426_110 l3 ?_
            obtain ⟨g29, h⟩ := wp_gd h
            refine dq_iald wi_426_111 t_232 g29 ?_
            refine rs_ifge (tg := 158) wi_426_112 ⟨by decide, by decide⟩ (fun q => ?_) (fun q => ?_)
            ·
              have h := wp_pos h q
              exact h _ l0 l1 l3
            ·
              have h := wp_neg h q
              refine rs_aldn wi_426_115 l0 ?_
              refine rs_aldn wi_426_116 l0 ?_
              refine dq_gr wi_426_117 wf_426_221 tf_174_61 ?_
              refine rs_aldn wi_426_120 l0 ?_
              refine rs_ild wi_426_121 l4 ?_
              refine rs_ild wi_426_123 l5 ?_
              refine rs_V wi_426_125 wc_426_543 rfl (dq_isa tf_174_0 wa_15_392) (Nat.le_trans (by decide) hF) (ml_le wm_392 (Nat.le_trans (by decide) hLo)) rfl (sp_392 (Nat.le_trans (by decide : 0 ≤ 1 - 1) (Nat.sub_le_sub_right hF 1)) (ml_sub wm_392 (Nat.le_trans (by decide : 0 ≤ 23 - 22) (Nat.sub_le_sub_right hLo 22))) (wp_bind h) (fun v30 h => rs_back1 ?_))
              obtain ⟨g31, h⟩ := wp_gd h
              refine dq_lald wi_426_128 t_223 g31 ?_
              refine rs_V wi_426_129 wc_426_462 rfl (dq_isa tf_174_0 wa_15_373) (Nat.le_trans (by decide) hF) (ml_le wm_373 (Nat.le_trans (by decide) hLo)) rfl (sp_373 hw (Nat.le_trans (by decide : 0 ≤ 1 - 1) (Nat.sub_le_sub_right hF 1)) (ml_sub wm_373 (Nat.le_trans (by decide : 0 ≤ 23 - 23) (Nat.sub_le_sub_right hLo 23))) (wp_bind h) (fun v32 h => rs_back1 ?_))
              refine dl_ist wi_426_132 rfl (fun lv l6 t33 => ?_)
              have l0 := t33 _ _ (by decide) (Or.inl rfl) l0
              have l1 := t33 _ _ (by decide) (Or.inr (by decide)) l1
              have l3 := t33 _ _ (by decide) (Or.inl rfl) l3
              have l4 := t33 _ _ (by decide) (Or.inl rfl) l4
              have l5 := t33 _ _ (by decide) (Or.inl rfl) l5
              refine rs_ild wi_426_134 l6 ?_
              refine wp_jn (B := fun p34 : cS => ∀ lv, rx_ld lv 0 = some (.ref 174) → rx_ld lv 1 = some (.long a1) → rx_ld lv 3 = some (.int s4.1) → rx_ld lv 4 = some (.int v6) → rx_ld lv 5 = some (.int s27.1) → rs (rt_P sc fm) 426 F Lo 152 lv [] (hq false p34 y w) Q) h (fun p34 h lv l0 l1 l3 l4 l5 => ?_) (fun j152 hj152 h => ?_)
              ·
                obtain ⟨v36, e37, h⟩ := wp_lt h
                refine dl_inc wi_426_152 l5 rfl e37 (fun lv l5 t35 => ?_)
                have l0 := t35 _ _ (by decide) (Or.inl rfl) l0
                have l1 := t35 _ _ (by decide) (Or.inr (by decide)) l1
                have l3 := t35 _ _ (by decide) (Or.inl rfl) l3
                have l4 := t35 _ _ (by decide) (Or.inl rfl) l4
                refine rs_goto (tg := 94) wi_426_155 ⟨by decide, by decide⟩ ?_
                exact h _ l0 l1 l3 l4 l5
              refine rs_iflt (tg := 152) wi_426_136 ⟨by decide, by decide⟩ (fun q => ?_) (fun q => ?_)
              ·
                have h := wp_pos h q
                exact hj152 _ h _ l0 l1 l3 l4 l5
              ·
                have h := wp_neg h q
                refine rs_aldn wi_426_139 l0 ?_
                refine dq_gr wi_426_140 wf_426_249 tf_174_72 ?_
                refine rs_ildn wi_426_143 l3 ?_
                refine rs_aldn wi_426_144 l0 ?_
                refine dq_gr wi_426_145 wf_426_249 tf_174_72 ?_
                refine rs_ild wi_426_148 l6 ?_
                obtain ⟨g38, h⟩ := wp_gd h
                refine dq_iald wi_426_150 t_232 g38 ?_
                obtain ⟨g39, h⟩ := wp_gd h
                obtain ⟨c40, e41, h⟩ := wp_lt h
                refine dq_iast wi_426_151 t_232 g39 e41 ?_
                exact hj152 _ h _ l0 l1 l3 l4 l5
        ·
          intro x42 h lv l0 l1 l3
          obtain ⟨v44, e45, h⟩ := wp_lt h
          refine dl_inc wi_426_158 l3 rfl e45 (fun lv l3 t43 => ?_)
          have l0 := t43 _ _ (by decide) (Or.inl rfl) l0
          have l1 := t43 _ _ (by decide) (Or.inr (by decide)) l1
          refine rs_goto (tg := 7) wi_426_161 ⟨by decide, by decide⟩ ?_
          exact h _ l0 l1 l3
  ·
    intro x46 h lv
    exact rs_vret wi_426_164 wr_426 (hQ x46 h)
theorem wa_15_425 : rz_cn 15 (rx_yn (rt_P sc fm) 425).cls = true := (by decide +kernel : rz_cn 15 (rt_yn 425).cls = true)
theorem wa_15_426 : rz_cn 15 (rx_yn (rt_P sc fm) 426).cls = true := (by decide +kernel : rz_cn 15 (rt_yn 426).cls = true)
theorem wc_427_462 : rx_ct (rt_P sc fm) 427 462 = some (0, 373, 1) := (by decide +kernel : rt_ct 427 462 = some (0, 373, 1))
theorem wc_427_543 : rx_ct (rt_P sc fm) 427 543 = some (0, 392, 2) := (by decide +kernel : rt_ct 427 543 = some (0, 392, 2))
theorem wc_427_667 : rx_ct (rt_P sc fm) 427 667 = some (0, 425, 2) := (by decide +kernel : rt_ct 427 667 = some (0, 425, 2))
theorem wc_427_671 : rx_ct (rt_P sc fm) 427 671 = some (0, 426, 1) := (by decide +kernel : rt_ct 427 671 = some (0, 426, 1))
theorem wf_427_221 : rx_ft (rt_P sc fm) 427 221 = some (15, 61) := (by decide +kernel : rt_ft 427 221 = some (15, 61))
theorem wf_427_224 : rx_ft (rt_P sc fm) 427 224 = some (15, 62) := (by decide +kernel : rt_ft 427 224 = some (15, 62))
theorem wf_427_249 : rx_ft (rt_P sc fm) 427 249 = some (15, 72) := (by decide +kernel : rt_ft 427 249 = some (15, 72))
theorem wf_427_664 : rx_ft (rt_P sc fm) 427 664 = some (15, 73) := (by decide +kernel : rt_ft 427 664 = some (15, 73))
theorem wi_427_0 : ri (rt_P sc fm) 427 0 (.aload_n 0) (1) := ri_of (by decide +kernel) rfl
theorem wi_427_1 : ri (rt_P sc fm) 427 1 (.aload_n 0) (2) := ri_of (by decide +kernel) rfl
theorem wi_427_11 : ri (rt_P sc fm) 427 11 (.laload) (12) := ri_of (by decide +kernel) rfl
theorem wi_427_12 : ri (rt_P sc fm) 427 12 (.invokevirtual 462) (15) := ri_of (by decide +kernel) rfl
theorem wi_427_15 : ri (rt_P sc fm) 427 15 (.istore 5) (17) := ri_of (by decide +kernel) rfl
theorem wi_427_17 : ri (rt_P sc fm) 427 17 (.iload 5) (19) := ri_of (by decide +kernel) rfl
theorem wi_427_19 : ri (rt_P sc fm) 427 19 (.ifCond .lt 26) (22) := ri_of (by decide +kernel) rfl
theorem wi_427_2 : ri (rt_P sc fm) 427 2 (.getfield 221) (5) := ri_of (by decide +kernel) rfl
theorem wi_427_22 : ri (rt_P sc fm) 427 22 (.aload_n 0) (23) := ri_of (by decide +kernel) rfl
theorem wi_427_23 : ri (rt_P sc fm) 427 23 (.getfield 224) (26) := ri_of (by decide +kernel) rfl
theorem wi_427_26 : ri (rt_P sc fm) 427 26 (.aload_n 0) (27) := ri_of (by decide +kernel) rfl
theorem wi_427_27 : ri (rt_P sc fm) 427 27 (.iload_n 1) (28) := ri_of (by decide +kernel) rfl
theorem wi_427_28 : ri (rt_P sc fm) 427 28 (.iload_n 2) (29) := ri_of (by decide +kernel) rfl
theorem wi_427_29 : ri (rt_P sc fm) 427 29 (.invokevirtual 543) (32) := ri_of (by decide +kernel) rfl
theorem wi_427_32 : ri (rt_P sc fm) 427 32 (.baload) (33) := ri_of (by decide +kernel) rfl
theorem wi_427_33 : ri (rt_P sc fm) 427 33 (.ifCond .ne 12) (36) := ri_of (by decide +kernel) rfl
theorem wi_427_36 : ri (rt_P sc fm) 427 36 (.aload_n 0) (37) := ri_of (by decide +kernel) rfl
theorem wi_427_37 : ri (rt_P sc fm) 427 37 (.iload_n 1) (38) := ri_of (by decide +kernel) rfl
theorem wi_427_38 : ri (rt_P sc fm) 427 38 (.iload_n 2) (39) := ri_of (by decide +kernel) rfl
theorem wi_427_39 : ri (rt_P sc fm) 427 39 (.invokevirtual 667) (42) := ri_of (by decide +kernel) rfl
theorem wi_427_42 : ri (rt_P sc fm) 427 42 (.ifCond .ne 5) (45) := ri_of (by decide +kernel) rfl
theorem wi_427_45 : ri (rt_P sc fm) 427 45 (.iconst (-1)) (46) := ri_of (by decide +kernel) rfl
theorem wi_427_46 : ri (rt_P sc fm) 427 46 (.ireturn) (47) := ri_of (by decide +kernel) rfl
theorem wi_427_47 : ri (rt_P sc fm) 427 47 (.aload_n 0) (48) := ri_of (by decide +kernel) rfl
theorem wi_427_48 : ri (rt_P sc fm) 427 48 (.getfield 664) (51) := ri_of (by decide +kernel) rfl
theorem wi_427_5 : ri (rt_P sc fm) 427 5 (.aload_n 0) (6) := ri_of (by decide +kernel) rfl
theorem wi_427_51 : ri (rt_P sc fm) 427 51 (.lload_n 3) (52) := ri_of (by decide +kernel) rfl
theorem wi_427_52 : ri (rt_P sc fm) 427 52 (.lcmp) (53) := ri_of (by decide +kernel) rfl
theorem wi_427_53 : ri (rt_P sc fm) 427 53 (.ifCond .eq 8) (56) := ri_of (by decide +kernel) rfl
theorem wi_427_56 : ri (rt_P sc fm) 427 56 (.aload_n 0) (57) := ri_of (by decide +kernel) rfl
theorem wi_427_57 : ri (rt_P sc fm) 427 57 (.lload_n 3) (58) := ri_of (by decide +kernel) rfl
theorem wi_427_58 : ri (rt_P sc fm) 427 58 (.invokevirtual 671) (61) := ri_of (by decide +kernel) rfl
theorem wi_427_6 : ri (rt_P sc fm) 427 6 (.iload_n 1) (7) := ri_of (by decide +kernel) rfl
theorem wi_427_61 : ri (rt_P sc fm) 427 61 (.aload_n 0) (62) := ri_of (by decide +kernel) rfl
theorem wi_427_62 : ri (rt_P sc fm) 427 62 (.getfield 249) (65) := ri_of (by decide +kernel) rfl
theorem wi_427_65 : ri (rt_P sc fm) 427 65 (.iload 5) (67) := ri_of (by decide +kernel) rfl
theorem wi_427_67 : ri (rt_P sc fm) 427 67 (.iaload) (68) := ri_of (by decide +kernel) rfl
theorem wi_427_68 : ri (rt_P sc fm) 427 68 (.ireturn) (69) := ri_of (by decide +kernel) rfl
theorem wi_427_7 : ri (rt_P sc fm) 427 7 (.iload_n 2) (8) := ri_of (by decide +kernel) rfl
theorem wi_427_8 : ri (rt_P sc fm) 427 8 (.invokevirtual 543) (11) := ri_of (by decide +kernel) rfl
theorem wm_425 : rx_ml (rt_P sc fm) 425 = 10 := (by decide +kernel : rt_ml 425 = 10)
theorem wm_426 : rx_ml (rt_P sc fm) 426 = 7 := (by decide +kernel : rt_ml 426 = 7)
theorem wr_427 : rx_rt (rt_P sc fm) 427 = (some FieldType.int) := (by decide +kernel : rt_rt 427 = (some FieldType.int))
/-- MarkHouseModel.givenBy(IIJ)I -/
def d_427 (n : Nat) (a1 : Int32) (a2 : Int32) (a3 : Int64) (c : cS) : Option (Int32 × cS) :=
  Option.bind (d_392 n a1 a2) (fun v1 =>
  if ib v1 24380 then
  Option.bind (d_373 n (c.2 223 (ix v1)) c) (fun v3 =>
  jn (fun p5 : Unit =>
    some ((-1), c))
  (fun j45 =>
  if v3 < 0 then
    j45 ()
  else
    Option.bind (d_392 n a1 a2) (fun v6 =>
    if ib v6 24380 then
    if (c.1 224 (ix v6)) = 0 then
      Option.bind (d_425 n a1 a2 c) (fun v8 =>
      if v8 = 0 then
        j45 ()
      else
        jn (fun p9 : cS =>
          if ib v3 12 then
          some ((p9.1 232 (ix v3)), p9)
          else none)
        (fun j61 =>
        if (lg_cmp (c.2 174 73) a3) = 0 then
          j61 c
        else
          Option.bind (d_426 n a3 c) (fun r11 =>
          j61 r11)))
    else
      j45 ()
    else none)))
  else none)
set_option maxRecDepth 100000 in
set_option maxHeartbeats 4000000 in
theorem sp_427 {F Lo n : Nat} {a1 : Int32} {a2 : Int32} {a3 : Int64} {c y : cS} {w : cW} {K : Int32 × cS → Prop} {Q : ((Option Value) ⊕ String) → List va_E → Prop} (hw : rOK fm w) (hF : 2 ≤ F) (hLo : 52 ≤ Lo)  (h : wp (d_427 n a1 a2 a3 c) K) (hQ : ∀ r, K r → Q (.inl (some (.int r.1))) (hq false r.2 y w)) : rs (rt_P sc fm) 427 F Lo 0 [(0, .ref 174), (1, .int a1), (2, .int a2), (3, .long a3)] [] (hq false c y w) Q := by
  unfold d_427 at h
  obtain ⟨lv, elv⟩ : ∃ lv : rx_L, lv = [(0, .ref 174), (1, .int a1), (2, .int a2), (3, .long a3)] := ⟨_, rfl⟩
  rw [← elv]
  have l0 : rx_ld lv 0 = some (.ref 174) := by rw [elv]; rfl
  have l1 : rx_ld lv 1 = some (.int a1) := by rw [elv]; rfl
  have l2 : rx_ld lv 2 = some (.int a2) := by rw [elv]; rfl
  have l3 : rx_ld lv 3 = some (.long a3) := by rw [elv]; rfl
  refine rs_aldn wi_427_0 l0 ?_
  refine rs_aldn wi_427_1 l0 ?_
  refine dq_gr wi_427_2 wf_427_221 tf_174_61 ?_
  refine rs_aldn wi_427_5 l0 ?_
  refine rs_ildn wi_427_6 l1 ?_
  refine rs_ildn wi_427_7 l2 ?_
  refine rs_V wi_427_8 wc_427_543 rfl (dq_isa tf_174_0 wa_15_392) (Nat.le_trans (by decide) hF) (ml_le wm_392 (Nat.le_trans (by decide) hLo)) rfl (sp_392 (Nat.le_trans (by decide : 0 ≤ 2 - 1) (Nat.sub_le_sub_right hF 1)) (ml_sub wm_392 (Nat.le_trans (by decide : 0 ≤ 52 - 22) (Nat.sub_le_sub_right hLo 22))) (wp_bind h) (fun v1 h => rs_back1 ?_))
  obtain ⟨g2, h⟩ := wp_gd h
  refine dq_lald wi_427_11 t_223 g2 ?_
  refine rs_V wi_427_12 wc_427_462 rfl (dq_isa tf_174_0 wa_15_373) (Nat.le_trans (by decide) hF) (ml_le wm_373 (Nat.le_trans (by decide) hLo)) rfl (sp_373 hw (Nat.le_trans (by decide : 0 ≤ 2 - 1) (Nat.sub_le_sub_right hF 1)) (ml_sub wm_373 (Nat.le_trans (by decide : 0 ≤ 52 - 23) (Nat.sub_le_sub_right hLo 23))) (wp_bind h) (fun v3 h => rs_back1 ?_))
  refine dl_ist wi_427_15 rfl (fun lv l5 t4 => ?_)
  have l0 := t4 _ _ (by decide) (Or.inl rfl) l0
  have l1 := t4 _ _ (by decide) (Or.inl rfl) l1
  have l2 := t4 _ _ (by decide) (Or.inl rfl) l2
  have l3 := t4 _ _ (by decide) (Or.inr (by decide)) l3
  refine rs_ild wi_427_17 l5 ?_
  refine wp_jn (B := fun p5 : Unit => ∀ lv, rs (rt_P sc fm) 427 F Lo 45 lv [] (hq false c y w) Q) h (fun p5 h lv => ?_) (fun j45 hj45 h => ?_)
  ·
    refine rs_pure wi_427_45 rfl ?_
    refine rs_topi (v := (-1)) (by decide) ?_
    exact rs_iret wi_427_46 wr_427 rfl (hQ ((-1), c) h)
  refine rs_iflt (tg := 45) wi_427_19 ⟨by decide, by decide⟩ (fun q => ?_) (fun q => ?_)
  ·
    have h := wp_pos h q
    exact hj45 _ h _
  ·
    have h := wp_neg h q
    refine rs_aldn wi_427_22 l0 ?_
    refine dq_gr wi_427_23 wf_427_224 tf_174_62 ?_
    refine rs_aldn wi_427_26 l0 ?_
    refine rs_ildn wi_427_27 l1 ?_
    refine rs_ildn wi_427_28 l2 ?_
    refine rs_V wi_427_29 wc_427_543 rfl (dq_isa tf_174_0 wa_15_392) (Nat.le_trans (by decide) hF) (ml_le wm_392 (Nat.le_trans (by decide) hLo)) rfl (sp_392 (Nat.le_trans (by decide : 0 ≤ 2 - 1) (Nat.sub_le_sub_right hF 1)) (ml_sub wm_392 (Nat.le_trans (by decide : 0 ≤ 52 - 22) (Nat.sub_le_sub_right hLo 22))) (wp_bind h) (fun v6 h => rs_back1 ?_))
    obtain ⟨g7, h⟩ := wp_gd h
    refine dq_zald wi_427_32 t_224 g7 ?_
    refine rs_ifne (tg := 45) wi_427_33 ⟨by decide, by decide⟩ (fun q => ?_) (fun q => ?_)
    ·
      have h := wp_neg h q
      exact hj45 _ h _
    ·
      have h := wp_pos h q
      refine rs_aldn wi_427_36 l0 ?_
      refine rs_ildn wi_427_37 l1 ?_
      refine rs_ildn wi_427_38 l2 ?_
      refine rs_V wi_427_39 wc_427_667 rfl (dq_isa tf_174_0 wa_15_425) (Nat.le_trans (by decide) hF) (ml_le wm_425 (Nat.le_trans (by decide) hLo)) rfl (sp_425 hw (Nat.le_trans (by decide : 1 ≤ 2 - 1) (Nat.sub_le_sub_right hF 1)) (ml_sub wm_425 (Nat.le_trans (by decide : 23 ≤ 52 - 29) (Nat.sub_le_sub_right hLo 29))) (wp_bind h) (fun v8 h => rs_back1 ?_))
      refine rs_ifne (tg := 47) wi_427_42 ⟨by decide, by decide⟩ (fun q => ?_) (fun q => ?_)
      ·
        have h := wp_neg h q
        refine rs_aldn wi_427_47 l0 ?_
        refine dq_gl wi_427_48 wf_427_664 tf_174_73 ?_
        refine rs_lldn wi_427_51 l3 ?_
        refine rs_pure wi_427_52 rfl ?_
        refine wp_jn (B := fun p9 : cS => ∀ lv, rx_ld lv 0 = some (.ref 174) → rx_ld lv 5 = some (.int v3) → rs (rt_P sc fm) 427 F Lo 61 lv [] (hq false p9 y w) Q) h (fun p9 h lv l0 l5 => ?_) (fun j61 hj61 h => ?_)
        ·
          refine rs_aldn wi_427_61 l0 ?_
          refine dq_gr wi_427_62 wf_427_249 tf_174_72 ?_
          refine rs_ild wi_427_65 l5 ?_
          obtain ⟨g10, h⟩ := wp_gd h
          refine dq_iald wi_427_67 t_232 g10 ?_
          exact rs_iret wi_427_68 wr_427 rfl (hQ ((p9.1 232 (ix v3)), p9) h)
        refine rs_ifeq (tg := 61) wi_427_53 ⟨by decide, by decide⟩ (fun q => ?_) (fun q => ?_)
        ·
          have h := wp_pos h q
          exact hj61 _ h _ l0 l5
        ·
          have h := wp_neg h q
          refine rs_aldn wi_427_56 l0 ?_
          refine rs_lldn wi_427_57 l3 ?_
          refine rs_V wi_427_58 wc_427_671 rfl (dq_isa tf_174_0 wa_15_426) (Nat.le_trans (by decide) hF) (ml_le wm_426 (Nat.le_trans (by decide) hLo)) rfl (sp_426 hw (Nat.le_trans (by decide : 1 ≤ 2 - 1) (Nat.sub_le_sub_right hF 1)) (ml_sub wm_426 (Nat.le_trans (by decide : 23 ≤ 52 - 26) (Nat.sub_le_sub_right hLo 26))) (wp_bind h) (fun r11 h => rs_back0 ?_))
          exact hj61 _ h _ l0 l5
      ·
        have h := wp_pos h q
        exact hj45 _ h _
theorem wi_421_0 : ri (rt_P sc fm) 421 0 (.bipush 8) (2) := ri_of (by decide +kernel) rfl
theorem wi_421_10 : ri (rt_P sc fm) 421 10 (.irem) (11) := ri_of (by decide +kernel) rfl
theorem wi_421_11 : ri (rt_P sc fm) 421 11 (.bipush 20) (13) := ri_of (by decide +kernel) rfl
theorem wi_421_13 : ri (rt_P sc fm) 421 13 (.isub) (14) := ri_of (by decide +kernel) rfl
theorem wi_421_14 : ri (rt_P sc fm) 421 14 (.bipush 10) (16) := ri_of (by decide +kernel) rfl
theorem wi_421_16 : ri (rt_P sc fm) 421 16 (.idiv) (17) := ri_of (by decide +kernel) rfl
theorem wi_421_17 : ri (rt_P sc fm) 421 17 (.iadd) (18) := ri_of (by decide +kernel) rfl
theorem wi_421_18 : ri (rt_P sc fm) 421 18 (.ireturn) (19) := ri_of (by decide +kernel) rfl
theorem wi_421_2 : ri (rt_P sc fm) 421 2 (.iload_n 0) (3) := ri_of (by decide +kernel) rfl
theorem wi_421_3 : ri (rt_P sc fm) 421 3 (.bipush 100) (5) := ri_of (by decide +kernel) rfl
theorem wi_421_5 : ri (rt_P sc fm) 421 5 (.idiv) (6) := ri_of (by decide +kernel) rfl
theorem wi_421_6 : ri (rt_P sc fm) 421 6 (.imul) (7) := ri_of (by decide +kernel) rfl
theorem wi_421_7 : ri (rt_P sc fm) 421 7 (.iload_n 0) (8) := ri_of (by decide +kernel) rfl
theorem wi_421_8 : ri (rt_P sc fm) 421 8 (.bipush 100) (10) := ri_of (by decide +kernel) rfl
theorem wr_421 : rx_rt (rt_P sc fm) 421 = (some FieldType.int) := (by decide +kernel : rt_rt 421 = (some FieldType.int))
/-- MarkHouseModel.methodAt(I)I -/
def d_421 (n : Nat) (a0 : Int32) : Option (Int32) :=
  some ((8 * (a0 / 100)) + (((a0 - a0 / 100 * 100) - 20) / 10))
set_option maxRecDepth 100000 in
set_option maxHeartbeats 4000000 in
theorem sp_421 {F Lo n : Nat} {a0 : Int32} {L : List va_E} {K : Int32 → Prop} {Q : ((Option Value) ⊕ String) → List va_E → Prop} (hF : 0 ≤ F) (hLo : 0 ≤ Lo)  (h : wp (d_421 n a0) K) (hQ : ∀ r, K r → Q (.inl (some (.int r))) L) : rs (rt_P sc fm) 421 F Lo 0 [(0, .int a0)] [] L Q := by
  unfold d_421 at h
  obtain ⟨lv, elv⟩ : ∃ lv : rx_L, lv = [(0, .int a0)] := ⟨_, rfl⟩
  rw [← elv]
  have l0 : rx_ld lv 0 = some (.int a0) := by rw [elv]; rfl
  refine rs_pure wi_421_0 rfl ?_
  refine rs_topi (v := 8) (by decide) ?_
  refine rs_ildn wi_421_2 l0 ?_
  refine rs_pure wi_421_3 rfl ?_
  refine rs_topi (v := 100) (by decide) ?_
  refine dl_idiv wi_421_5 (by decide) ?_
  refine rs_pure wi_421_6 rfl ?_
  refine rs_ildn wi_421_7 l0 ?_
  refine rs_pure wi_421_8 rfl ?_
  refine rs_topi (v := 100) (by decide) ?_
  refine dl_irem wi_421_10 (by decide) ?_
  refine rs_pure wi_421_11 rfl ?_
  refine rs_topi (v := 20) (by decide) ?_
  refine rs_pure wi_421_13 rfl ?_
  refine rs_pure wi_421_14 rfl ?_
  refine rs_topi (v := 10) (by decide) ?_
  refine dl_idiv wi_421_16 (by decide) ?_
  refine rs_pure wi_421_17 rfl ?_
  exact rs_iret wi_421_18 wr_421 rfl (hQ ((8 * (a0 / 100)) + (((a0 - a0 / 100 * 100) - 20) / 10)) h)
theorem wi_422_0 : ri (rt_P sc fm) 422 0 (.bipush 100) (2) := ri_of (by decide +kernel) rfl
theorem wi_422_10 : ri (rt_P sc fm) 422 10 (.bipush 10) (12) := ri_of (by decide +kernel) rfl
theorem wi_422_12 : ri (rt_P sc fm) 422 12 (.iload_n 0) (13) := ri_of (by decide +kernel) rfl
theorem wi_422_13 : ri (rt_P sc fm) 422 13 (.bipush 8) (15) := ri_of (by decide +kernel) rfl
theorem wi_422_15 : ri (rt_P sc fm) 422 15 (.irem) (16) := ri_of (by decide +kernel) rfl
theorem wi_422_16 : ri (rt_P sc fm) 422 16 (.imul) (17) := ri_of (by decide +kernel) rfl
theorem wi_422_17 : ri (rt_P sc fm) 422 17 (.iadd) (18) := ri_of (by decide +kernel) rfl
theorem wi_422_18 : ri (rt_P sc fm) 422 18 (.ireturn) (19) := ri_of (by decide +kernel) rfl
theorem wi_422_2 : ri (rt_P sc fm) 422 2 (.iload_n 0) (3) := ri_of (by decide +kernel) rfl
theorem wi_422_3 : ri (rt_P sc fm) 422 3 (.bipush 8) (5) := ri_of (by decide +kernel) rfl
theorem wi_422_5 : ri (rt_P sc fm) 422 5 (.idiv) (6) := ri_of (by decide +kernel) rfl
theorem wi_422_6 : ri (rt_P sc fm) 422 6 (.imul) (7) := ri_of (by decide +kernel) rfl
theorem wi_422_7 : ri (rt_P sc fm) 422 7 (.bipush 20) (9) := ri_of (by decide +kernel) rfl
theorem wi_422_9 : ri (rt_P sc fm) 422 9 (.iadd) (10) := ri_of (by decide +kernel) rfl
theorem wr_422 : rx_rt (rt_P sc fm) 422 = (some FieldType.int) := (by decide +kernel : rt_rt 422 = (some FieldType.int))
/-- MarkHouseModel.placeOf(I)I -/
def d_422 (n : Nat) (a0 : Int32) : Option (Int32) :=
  some (((100 * (a0 / 8)) + 20) + (10 * (a0 - a0 / 8 * 8)))
set_option maxRecDepth 100000 in
set_option maxHeartbeats 4000000 in
theorem sp_422 {F Lo n : Nat} {a0 : Int32} {L : List va_E} {K : Int32 → Prop} {Q : ((Option Value) ⊕ String) → List va_E → Prop} (hF : 0 ≤ F) (hLo : 0 ≤ Lo)  (h : wp (d_422 n a0) K) (hQ : ∀ r, K r → Q (.inl (some (.int r))) L) : rs (rt_P sc fm) 422 F Lo 0 [(0, .int a0)] [] L Q := by
  unfold d_422 at h
  obtain ⟨lv, elv⟩ : ∃ lv : rx_L, lv = [(0, .int a0)] := ⟨_, rfl⟩
  rw [← elv]
  have l0 : rx_ld lv 0 = some (.int a0) := by rw [elv]; rfl
  refine rs_pure wi_422_0 rfl ?_
  refine rs_topi (v := 100) (by decide) ?_
  refine rs_ildn wi_422_2 l0 ?_
  refine rs_pure wi_422_3 rfl ?_
  refine rs_topi (v := 8) (by decide) ?_
  refine dl_idiv wi_422_5 (by decide) ?_
  refine rs_pure wi_422_6 rfl ?_
  refine rs_pure wi_422_7 rfl ?_
  refine rs_topi (v := 20) (by decide) ?_
  refine rs_pure wi_422_9 rfl ?_
  refine rs_pure wi_422_10 rfl ?_
  refine rs_topi (v := 10) (by decide) ?_
  refine rs_ildn wi_422_12 l0 ?_
  refine rs_pure wi_422_13 rfl ?_
  refine rs_topi (v := 8) (by decide) ?_
  refine dl_irem wi_422_15 (by decide) ?_
  refine rs_pure wi_422_16 rfl ?_
  refine rs_pure wi_422_17 rfl ?_
  exact rs_iret wi_422_18 wr_422 rfl (hQ (((100 * (a0 / 8)) + 20) + (10 * (a0 - a0 / 8 * 8))) h)
theorem wc_423_620 : rx_ct (rt_P sc fm) 423 620 = some (0, 414, 2) := (by decide +kernel : rt_ct 423 620 = some (0, 414, 2))
theorem wc_423_655 : rx_ct (rt_P sc fm) 423 655 = some (1, 110, 1) := (by decide +kernel : rt_ct 423 655 = some (1, 110, 1))
theorem wc_423_658 : rx_ct (rt_P sc fm) 423 658 = some (1, 421, 1) := (by decide +kernel : rt_ct 423 658 = some (1, 421, 1))
theorem wc_423_661 : rx_ct (rt_P sc fm) 423 661 = some (1, 422, 1) := (by decide +kernel : rt_ct 423 661 = some (1, 422, 1))
theorem wf_423_155 : rx_ft (rt_P sc fm) 423 155 = some (15, 39) := (by decide +kernel : rt_ft 423 155 = some (15, 39))
theorem wf_423_170 : rx_ft (rt_P sc fm) 423 170 = some (15, 44) := (by decide +kernel : rt_ft 423 170 = some (15, 44))
theorem wf_423_173 : rx_ft (rt_P sc fm) 423 173 = some (15, 45) := (by decide +kernel : rt_ft 423 173 = some (15, 45))
theorem wi_423_0 : ri (rt_P sc fm) 423 0 (.iload_n 1) (1) := ri_of (by decide +kernel) rfl
theorem wi_423_1 : ri (rt_P sc fm) 423 1 (.bipush 100) (3) := ri_of (by decide +kernel) rfl
theorem wi_423_10 : ri (rt_P sc fm) 423 10 (.iload_n 3) (11) := ri_of (by decide +kernel) rfl
theorem wi_423_100 : ri (rt_P sc fm) 423 100 (.istore 6) (102) := ri_of (by decide +kernel) rfl
theorem wi_423_102 : ri (rt_P sc fm) 423 102 (.aload_n 0) (103) := ri_of (by decide +kernel) rfl
theorem wi_423_103 : ri (rt_P sc fm) 423 103 (.getfield 173) (106) := ri_of (by decide +kernel) rfl
theorem wi_423_106 : ri (rt_P sc fm) 423 106 (.iload 6) (108) := ri_of (by decide +kernel) rfl
theorem wi_423_108 : ri (rt_P sc fm) 423 108 (.iaload) (109) := ri_of (by decide +kernel) rfl
theorem wi_423_109 : ri (rt_P sc fm) 423 109 (.aload_n 0) (110) := ri_of (by decide +kernel) rfl
theorem wi_423_11 : ri (rt_P sc fm) 423 11 (.iconst 1) (12) := ri_of (by decide +kernel) rfl
theorem wi_423_110 : ri (rt_P sc fm) 423 110 (.getfield 173) (113) := ri_of (by decide +kernel) rfl
theorem wi_423_113 : ri (rt_P sc fm) 423 113 (.iload 4) (115) := ri_of (by decide +kernel) rfl
theorem wi_423_115 : ri (rt_P sc fm) 423 115 (.iaload) (116) := ri_of (by decide +kernel) rfl
theorem wi_423_116 : ri (rt_P sc fm) 423 116 (.if_icmp .eq 5) (119) := ri_of (by decide +kernel) rfl
theorem wi_423_119 : ri (rt_P sc fm) 423 119 (.iconst (-1)) (120) := ri_of (by decide +kernel) rfl
theorem wi_423_12 : ri (rt_P sc fm) 423 12 (.if_icmp .ne 26) (15) := ri_of (by decide +kernel) rfl
theorem wi_423_120 : ri (rt_P sc fm) 423 120 (.ireturn) (121) := ri_of (by decide +kernel) rfl
theorem wi_423_121 : ri (rt_P sc fm) 423 121 (.iload 6) (123) := ri_of (by decide +kernel) rfl
theorem wi_423_123 : ri (rt_P sc fm) 423 123 (.invokestatic 661) (126) := ri_of (by decide +kernel) rfl
theorem wi_423_126 : ri (rt_P sc fm) 423 126 (.iload_n 1) (127) := ri_of (by decide +kernel) rfl
theorem wi_423_127 : ri (rt_P sc fm) 423 127 (.bipush 100) (129) := ri_of (by decide +kernel) rfl
theorem wi_423_129 : ri (rt_P sc fm) 423 129 (.irem) (130) := ri_of (by decide +kernel) rfl
theorem wi_423_130 : ri (rt_P sc fm) 423 130 (.bipush 20) (132) := ri_of (by decide +kernel) rfl
theorem wi_423_132 : ri (rt_P sc fm) 423 132 (.isub) (133) := ri_of (by decide +kernel) rfl
theorem wi_423_133 : ri (rt_P sc fm) 423 133 (.bipush 10) (135) := ri_of (by decide +kernel) rfl
theorem wi_423_135 : ri (rt_P sc fm) 423 135 (.irem) (136) := ri_of (by decide +kernel) rfl
theorem wi_423_136 : ri (rt_P sc fm) 423 136 (.iadd) (137) := ri_of (by decide +kernel) rfl
theorem wi_423_137 : ri (rt_P sc fm) 423 137 (.ireturn) (138) := ri_of (by decide +kernel) rfl
theorem wi_423_15 : ri (rt_P sc fm) 423 15 (.aload_n 0) (16) := ri_of (by decide +kernel) rfl
theorem wi_423_16 : ri (rt_P sc fm) 423 16 (.getfield 155) (19) := ri_of (by decide +kernel) rfl
theorem wi_423_19 : ri (rt_P sc fm) 423 19 (.iload_n 2) (20) := ri_of (by decide +kernel) rfl
theorem wi_423_20 : ri (rt_P sc fm) 423 20 (.iaload) (21) := ri_of (by decide +kernel) rfl
theorem wi_423_21 : ri (rt_P sc fm) 423 21 (.ifCond .ge 7) (24) := ri_of (by decide +kernel) rfl
theorem wi_423_24 : ri (rt_P sc fm) 423 24 (.iconst (-1)) (25) := ri_of (by decide +kernel) rfl
theorem wi_423_25 : ri (rt_P sc fm) 423 25 (.goto 12) (28) := ri_of (by decide +kernel) rfl
theorem wi_423_28 : ri (rt_P sc fm) 423 28 (.bipush 100) (30) := ri_of (by decide +kernel) rfl
theorem wi_423_3 : ri (rt_P sc fm) 423 3 (.idiv) (4) := ri_of (by decide +kernel) rfl
theorem wi_423_30 : ri (rt_P sc fm) 423 30 (.aload_n 0) (31) := ri_of (by decide +kernel) rfl
theorem wi_423_31 : ri (rt_P sc fm) 423 31 (.getfield 155) (34) := ri_of (by decide +kernel) rfl
theorem wi_423_34 : ri (rt_P sc fm) 423 34 (.iload_n 2) (35) := ri_of (by decide +kernel) rfl
theorem wi_423_35 : ri (rt_P sc fm) 423 35 (.iaload) (36) := ri_of (by decide +kernel) rfl
theorem wi_423_36 : ri (rt_P sc fm) 423 36 (.imul) (37) := ri_of (by decide +kernel) rfl
theorem wi_423_37 : ri (rt_P sc fm) 423 37 (.ireturn) (38) := ri_of (by decide +kernel) rfl
theorem wi_423_38 : ri (rt_P sc fm) 423 38 (.iload_n 3) (39) := ri_of (by decide +kernel) rfl
theorem wi_423_39 : ri (rt_P sc fm) 423 39 (.iconst 2) (40) := ri_of (by decide +kernel) rfl
theorem wi_423_4 : ri (rt_P sc fm) 423 4 (.istore_n 2) (5) := ri_of (by decide +kernel) rfl
theorem wi_423_40 : ri (rt_P sc fm) 423 40 (.if_icmp .eq 12) (43) := ri_of (by decide +kernel) rfl
theorem wi_423_43 : ri (rt_P sc fm) 423 43 (.aload_n 0) (44) := ri_of (by decide +kernel) rfl
theorem wi_423_44 : ri (rt_P sc fm) 423 44 (.getfield 155) (47) := ri_of (by decide +kernel) rfl
theorem wi_423_47 : ri (rt_P sc fm) 423 47 (.iload_n 2) (48) := ri_of (by decide +kernel) rfl
theorem wi_423_48 : ri (rt_P sc fm) 423 48 (.iaload) (49) := ri_of (by decide +kernel) rfl
theorem wi_423_49 : ri (rt_P sc fm) 423 49 (.ifCond .ge 5) (52) := ri_of (by decide +kernel) rfl
theorem wi_423_5 : ri (rt_P sc fm) 423 5 (.iload_n 1) (6) := ri_of (by decide +kernel) rfl
theorem wi_423_52 : ri (rt_P sc fm) 423 52 (.iconst (-1)) (53) := ri_of (by decide +kernel) rfl
theorem wi_423_53 : ri (rt_P sc fm) 423 53 (.ireturn) (54) := ri_of (by decide +kernel) rfl
theorem wi_423_54 : ri (rt_P sc fm) 423 54 (.iload_n 1) (55) := ri_of (by decide +kernel) rfl
theorem wi_423_55 : ri (rt_P sc fm) 423 55 (.invokestatic 658) (58) := ri_of (by decide +kernel) rfl
theorem wi_423_58 : ri (rt_P sc fm) 423 58 (.istore 4) (60) := ri_of (by decide +kernel) rfl
theorem wi_423_6 : ri (rt_P sc fm) 423 6 (.invokestatic 655) (9) := ri_of (by decide +kernel) rfl
theorem wi_423_60 : ri (rt_P sc fm) 423 60 (.aload_n 0) (61) := ri_of (by decide +kernel) rfl
theorem wi_423_61 : ri (rt_P sc fm) 423 61 (.aload_n 0) (62) := ri_of (by decide +kernel) rfl
theorem wi_423_62 : ri (rt_P sc fm) 423 62 (.getfield 155) (65) := ri_of (by decide +kernel) rfl
theorem wi_423_65 : ri (rt_P sc fm) 423 65 (.iload_n 2) (66) := ri_of (by decide +kernel) rfl
theorem wi_423_66 : ri (rt_P sc fm) 423 66 (.iaload) (67) := ri_of (by decide +kernel) rfl
theorem wi_423_67 : ri (rt_P sc fm) 423 67 (.aload_n 0) (68) := ri_of (by decide +kernel) rfl
theorem wi_423_68 : ri (rt_P sc fm) 423 68 (.getfield 170) (71) := ri_of (by decide +kernel) rfl
theorem wi_423_71 : ri (rt_P sc fm) 423 71 (.iload 4) (73) := ri_of (by decide +kernel) rfl
theorem wi_423_73 : ri (rt_P sc fm) 423 73 (.laload) (74) := ri_of (by decide +kernel) rfl
theorem wi_423_74 : ri (rt_P sc fm) 423 74 (.invokevirtual 620) (77) := ri_of (by decide +kernel) rfl
theorem wi_423_77 : ri (rt_P sc fm) 423 77 (.istore 5) (79) := ri_of (by decide +kernel) rfl
theorem wi_423_79 : ri (rt_P sc fm) 423 79 (.iload 5) (81) := ri_of (by decide +kernel) rfl
theorem wi_423_81 : ri (rt_P sc fm) 423 81 (.ifCond .ge 5) (84) := ri_of (by decide +kernel) rfl
theorem wi_423_84 : ri (rt_P sc fm) 423 84 (.iconst (-1)) (85) := ri_of (by decide +kernel) rfl
theorem wi_423_85 : ri (rt_P sc fm) 423 85 (.ireturn) (86) := ri_of (by decide +kernel) rfl
theorem wi_423_86 : ri (rt_P sc fm) 423 86 (.bipush 8) (88) := ri_of (by decide +kernel) rfl
theorem wi_423_88 : ri (rt_P sc fm) 423 88 (.iload 5) (90) := ri_of (by decide +kernel) rfl
theorem wi_423_9 : ri (rt_P sc fm) 423 9 (.istore_n 3) (10) := ri_of (by decide +kernel) rfl
theorem wi_423_90 : ri (rt_P sc fm) 423 90 (.bipush 100) (92) := ri_of (by decide +kernel) rfl
theorem wi_423_92 : ri (rt_P sc fm) 423 92 (.idiv) (93) := ri_of (by decide +kernel) rfl
theorem wi_423_93 : ri (rt_P sc fm) 423 93 (.imul) (94) := ri_of (by decide +kernel) rfl
theorem wi_423_94 : ri (rt_P sc fm) 423 94 (.iload 5) (96) := ri_of (by decide +kernel) rfl
theorem wi_423_96 : ri (rt_P sc fm) 423 96 (.bipush 100) (98) := ri_of (by decide +kernel) rfl
theorem wi_423_98 : ri (rt_P sc fm) 423 98 (.irem) (99) := ri_of (by decide +kernel) rfl
theorem wi_423_99 : ri (rt_P sc fm) 423 99 (.iadd) (100) := ri_of (by decide +kernel) rfl
theorem wm_421 : rx_ml (rt_P sc fm) 421 = 1 := (by decide +kernel : rt_ml 421 = 1)
theorem wm_422 : rx_ml (rt_P sc fm) 422 = 1 := (by decide +kernel : rt_ml 422 = 1)
theorem wr_423 : rx_rt (rt_P sc fm) 423 = (some FieldType.int) := (by decide +kernel : rt_rt 423 = (some FieldType.int))
/-- MarkHouseModel.above(I)I -/
def d_423 (n : Nat) (a1 : Int32) (c : cS) : Option (Int32) :=
  lt ((a1 / 100) : Int32) (fun v2 =>
  Option.bind (d_110 n a1) (fun v4 =>
  if v4 = 1 then
    if ib v2 12 then
    jn (fun p21 : Int32 =>
      some p21)
    (fun j37 =>
    if 0 ≤ (c.1 201 (ix v2)) then
      if ib v2 12 then
      j37 (100 * (c.1 201 (ix v2)))
      else none
    else
      j37 (-1))
    else none
  else
    jn (fun p6 : Unit =>
      some (-1))
    (fun j52 =>
    if v4 = 2 then
      j52 ()
    else
      if ib v2 12 then
      if 0 ≤ (c.1 201 (ix v2)) then
        Option.bind (d_421 n a1) (fun v8 =>
        if ib v2 12 then
        if ib v8 96 then
        Option.bind (d_414 n (c.1 201 (ix v2)) (c.2 206 (ix v8)) c) (fun v12 =>
        if 0 ≤ v12 then
          lt (((8 * (v12 / 100)) + (v12 - v12 / 100 * 100)) : Int32) (fun v15 =>
          if ib v15 96 then
          if ib v8 96 then
          if (c.1 207 (ix v15)) = (c.1 207 (ix v8)) then
            Option.bind (d_422 n v15) (fun v19 =>
            some (v19 + (((a1 - a1 / 100 * 100) - 20) - ((a1 - a1 / 100 * 100) - 20) / 10 * 10)))
          else
            some (-1)
          else none
          else none)
        else
          some (-1))
        else none
        else none)
      else
        j52 ()
      else none)))
set_option maxRecDepth 100000 in
set_option maxHeartbeats 4000000 in
theorem sp_423 {F Lo n : Nat} {a1 : Int32} {c y : cS} {w : cW} {K : Int32 → Prop} {Q : ((Option Value) ⊕ String) → List va_E → Prop} (hw : rOK fm w) (hF : 1 ≤ F) (hLo : 25 ≤ Lo)  (h : wp (d_423 n a1 c) K) (hQ : ∀ r, K r → Q (.inl (some (.int r))) (hq false c y w)) : rs (rt_P sc fm) 423 F Lo 0 [(0, .ref 174), (1, .int a1)] [] (hq false c y w) Q := by
  unfold d_423 at h
  obtain ⟨lv, elv⟩ : ∃ lv : rx_L, lv = [(0, .ref 174), (1, .int a1)] := ⟨_, rfl⟩
  rw [← elv]
  have l0 : rx_ld lv 0 = some (.ref 174) := by rw [elv]; rfl
  have l1 : rx_ld lv 1 = some (.int a1) := by rw [elv]; rfl
  refine rs_ildn wi_423_0 l1 ?_
  refine rs_pure wi_423_1 rfl ?_
  refine rs_topi (v := 100) (by decide) ?_
  refine dl_idiv wi_423_3 (by decide) ?_
  obtain ⟨v2, e3, h⟩ := wp_lt h
  refine rs_topi e3 ?_
  refine dl_istn wi_423_4 rfl (fun lv l2 t1 => ?_)
  have l0 := t1 _ _ (by decide) (Or.inl rfl) l0
  have l1 := t1 _ _ (by decide) (Or.inl rfl) l1
  refine rs_ildn wi_423_5 l1 ?_
  refine rs_S wi_423_6 wc_423_655 (Or.inl rfl) rfl (Nat.le_trans (by decide) hF) (ml_le wm_110 (Nat.le_trans (by decide) hLo)) rfl (sp_110 (Nat.le_trans (by decide : 0 ≤ 1 - 1) (Nat.sub_le_sub_right hF 1)) (ml_sub wm_110 (Nat.le_trans (by decide : 0 ≤ 25 - 21) (Nat.sub_le_sub_right hLo 21))) (wp_bind h) (fun v4 h => rs_back1 ?_))
  refine dl_istn wi_423_9 rfl (fun lv l3 t5 => ?_)
  have l0 := t5 _ _ (by decide) (Or.inl rfl) l0
  have l1 := t5 _ _ (by decide) (Or.inl rfl) l1
  have l2 := t5 _ _ (by decide) (Or.inl rfl) l2
  refine rs_ildn wi_423_10 l3 ?_
  refine rs_pure wi_423_11 rfl ?_
  refine rs_topi (v := 1) (by decide) ?_
  refine rs_icne (tg := 38) wi_423_12 ⟨by decide, by decide⟩ (fun q => ?_) (fun q => ?_)
  ·
    have h := wp_neg h q
    refine rs_ildn wi_423_38 l3 ?_
    refine rs_pure wi_423_39 rfl ?_
    refine rs_topi (v := 2) (by decide) ?_
    refine wp_jn (B := fun p6 : Unit => ∀ lv, rs (rt_P sc fm) 423 F Lo 52 lv [] (hq false c y w) Q) h (fun p6 h lv => ?_) (fun j52 hj52 h => ?_)
    ·
      refine rs_pure wi_423_52 rfl ?_
      refine rs_topi (v := (-1)) (by decide) ?_
      exact rs_iret wi_423_53 wr_423 rfl (hQ (-1) h)
    refine rs_iceq (tg := 52) wi_423_40 ⟨by decide, by decide⟩ (fun q => ?_) (fun q => ?_)
    ·
      have h := wp_pos h q
      exact hj52 _ h _
    ·
      have h := wp_neg h q
      refine rs_aldn wi_423_43 l0 ?_
      refine dq_gr wi_423_44 wf_423_155 tf_174_39 ?_
      refine rs_ildn wi_423_47 l2 ?_
      obtain ⟨g7, h⟩ := wp_gd h
      refine dq_iald wi_423_48 t_201 g7 ?_
      refine rs_ifge (tg := 54) wi_423_49 ⟨by decide, by decide⟩ (fun q => ?_) (fun q => ?_)
      ·
        have h := wp_pos h q
        refine rs_ildn wi_423_54 l1 ?_
        refine rs_S wi_423_55 wc_423_658 (Or.inl rfl) rfl (Nat.le_trans (by decide) hF) (ml_le wm_421 (Nat.le_trans (by decide) hLo)) rfl (sp_421 (Nat.le_trans (by decide : 0 ≤ 1 - 1) (Nat.sub_le_sub_right hF 1)) (ml_sub wm_421 (Nat.le_trans (by decide : 0 ≤ 25 - 20) (Nat.sub_le_sub_right hLo 20))) (wp_bind h) (fun v8 h => rs_back1 ?_))
        refine dl_ist wi_423_58 rfl (fun lv l4 t9 => ?_)
        have l0 := t9 _ _ (by decide) (Or.inl rfl) l0
        have l1 := t9 _ _ (by decide) (Or.inl rfl) l1
        have l2 := t9 _ _ (by decide) (Or.inl rfl) l2
        refine rs_aldn wi_423_60 l0 ?_
        refine rs_aldn wi_423_61 l0 ?_
        refine dq_gr wi_423_62 wf_423_155 tf_174_39 ?_
        refine rs_ildn wi_423_65 l2 ?_
        obtain ⟨g10, h⟩ := wp_gd h
        refine dq_iald wi_423_66 t_201 g10 ?_
        refine rs_aldn wi_423_67 l0 ?_
        refine dq_gr wi_423_68 wf_423_170 tf_174_44 ?_
        refine rs_ild wi_423_71 l4 ?_
        obtain ⟨g11, h⟩ := wp_gd h
        refine dq_lald wi_423_73 t_206 g11 ?_
        refine rs_V wi_423_74 wc_423_620 rfl (dq_isa tf_174_0 wa_15_414) (Nat.le_trans (by decide) hF) (ml_le wm_414 (Nat.le_trans (by decide) hLo)) rfl (sp_414 hw (Nat.le_trans (by decide : 0 ≤ 1 - 1) (Nat.sub_le_sub_right hF 1)) (ml_sub wm_414 (Nat.le_trans (by decide : 0 ≤ 25 - 25) (Nat.sub_le_sub_right hLo 25))) (wp_bind h) (fun v12 h => rs_back1 ?_))
        refine dl_ist wi_423_77 rfl (fun lv l5 t13 => ?_)
        have l0 := t13 _ _ (by decide) (Or.inl rfl) l0
        have l1 := t13 _ _ (by decide) (Or.inl rfl) l1
        have l4 := t13 _ _ (by decide) (Or.inl rfl) l4
        refine rs_ild wi_423_79 l5 ?_
        refine rs_ifge (tg := 86) wi_423_81 ⟨by decide, by decide⟩ (fun q => ?_) (fun q => ?_)
        ·
          have h := wp_pos h q
          refine rs_pure wi_423_86 rfl ?_
          refine rs_topi (v := 8) (by decide) ?_
          refine rs_ild wi_423_88 l5 ?_
          refine rs_pure wi_423_90 rfl ?_
          refine rs_topi (v := 100) (by decide) ?_
          refine dl_idiv wi_423_92 (by decide) ?_
          refine rs_pure wi_423_93 rfl ?_
          refine rs_ild wi_423_94 l5 ?_
          refine rs_pure wi_423_96 rfl ?_
          refine rs_topi (v := 100) (by decide) ?_
          refine dl_irem wi_423_98 (by decide) ?_
          refine rs_pure wi_423_99 rfl ?_
          obtain ⟨v15, e16, h⟩ := wp_lt h
          refine rs_topi e16 ?_
          refine dl_ist wi_423_100 rfl (fun lv l6 t14 => ?_)
          have l0 := t14 _ _ (by decide) (Or.inl rfl) l0
          have l1 := t14 _ _ (by decide) (Or.inl rfl) l1
          have l4 := t14 _ _ (by decide) (Or.inl rfl) l4
          refine rs_aldn wi_423_102 l0 ?_
          refine dq_gr wi_423_103 wf_423_173 tf_174_45 ?_
          refine rs_ild wi_423_106 l6 ?_
          obtain ⟨g17, h⟩ := wp_gd h
          refine dq_iald wi_423_108 t_207 g17 ?_
          refine rs_aldn wi_423_109 l0 ?_
          refine dq_gr wi_423_110 wf_423_173 tf_174_45 ?_
          refine rs_ild wi_423_113 l4 ?_
          obtain ⟨g18, h⟩ := wp_gd h
          refine dq_iald wi_423_115 t_207 g18 ?_
          refine rs_iceq (tg := 121) wi_423_116 ⟨by decide, by decide⟩ (fun q => ?_) (fun q => ?_)
          ·
            have h := wp_pos h q
            refine rs_ild wi_423_121 l6 ?_
            refine rs_S wi_423_123 wc_423_661 (Or.inl rfl) rfl (Nat.le_trans (by decide) hF) (ml_le wm_422 (Nat.le_trans (by decide) hLo)) rfl (sp_422 (Nat.le_trans (by decide : 0 ≤ 1 - 1) (Nat.sub_le_sub_right hF 1)) (ml_sub wm_422 (Nat.le_trans (by decide : 0 ≤ 25 - 20) (Nat.sub_le_sub_right hLo 20))) (wp_bind h) (fun v19 h => rs_back1 ?_))
            refine rs_ildn wi_423_126 l1 ?_
            refine rs_pure wi_423_127 rfl ?_
            refine rs_topi (v := 100) (by decide) ?_
            refine dl_irem wi_423_129 (by decide) ?_
            refine rs_pure wi_423_130 rfl ?_
            refine rs_topi (v := 20) (by decide) ?_
            refine rs_pure wi_423_132 rfl ?_
            refine rs_pure wi_423_133 rfl ?_
            refine rs_topi (v := 10) (by decide) ?_
            refine dl_irem wi_423_135 (by decide) ?_
            refine rs_pure wi_423_136 rfl ?_
            exact rs_iret wi_423_137 wr_423 rfl (hQ (v19 + (((a1 - a1 / 100 * 100) - 20) - ((a1 - a1 / 100 * 100) - 20) / 10 * 10)) h)
          ·
            have h := wp_neg h q
            refine rs_pure wi_423_119 rfl ?_
            refine rs_topi (v := (-1)) (by decide) ?_
            exact rs_iret wi_423_120 wr_423 rfl (hQ (-1) h)
        ·
          have h := wp_neg h q
          refine rs_pure wi_423_84 rfl ?_
          refine rs_topi (v := (-1)) (by decide) ?_
          exact rs_iret wi_423_85 wr_423 rfl (hQ (-1) h)
      ·
        have h := wp_neg h q
        exact hj52 _ h _
  ·
    have h := wp_pos h q
    refine rs_aldn wi_423_15 l0 ?_
    refine dq_gr wi_423_16 wf_423_155 tf_174_39 ?_
    refine rs_ildn wi_423_19 l2 ?_
    obtain ⟨g20, h⟩ := wp_gd h
    refine dq_iald wi_423_20 t_201 g20 ?_
    refine wp_jn (B := fun p21 : Int32 => ∀ lv, rs (rt_P sc fm) 423 F Lo 37 lv [.int p21] (hq false c y w) Q) h (fun p21 h lv => ?_) (fun j37 hj37 h => ?_)
    ·
      exact rs_iret wi_423_37 wr_423 rfl (hQ p21 h)
    refine rs_ifge (tg := 28) wi_423_21 ⟨by decide, by decide⟩ (fun q => ?_) (fun q => ?_)
    ·
      have h := wp_pos h q
      refine rs_pure wi_423_28 rfl ?_
      refine rs_topi (v := 100) (by decide) ?_
      refine rs_aldn wi_423_30 l0 ?_
      refine dq_gr wi_423_31 wf_423_155 tf_174_39 ?_
      refine rs_ildn wi_423_34 l2 ?_
      obtain ⟨g22, h⟩ := wp_gd h
      refine dq_iald wi_423_35 t_201 g22 ?_
      refine rs_pure wi_423_36 rfl ?_
      exact hj37 _ h _
    ·
      have h := wp_neg h q
      refine rs_pure wi_423_24 rfl ?_
      refine rs_topi (v := (-1)) (by decide) ?_
      refine rs_goto (tg := 37) wi_423_25 ⟨by decide, by decide⟩ ?_
      exact hj37 _ h _
theorem t_233 : ta false 233 0 20 := ⟨rfl, by decide, by decide⟩
theorem tf_174_74 : fo false 174 15 74 (.int 0) := ⟨_, rfl, rfl, by decide, by decide⟩
theorem tf_174_75 : fo false 174 15 75 (.ref 233) := ⟨_, rfl, rfl, by decide, by decide⟩
theorem tf_174_76 : fo false 174 15 76 (.int 0) := ⟨_, rfl, rfl, by decide, by decide⟩
theorem tf_174_77 : fo false 174 15 77 (.int 0) := ⟨_, rfl, rfl, by decide, by decide⟩
theorem tf_174_78 : fo false 174 15 78 (.int 0) := ⟨_, rfl, rfl, by decide, by decide⟩
theorem wa_15_423 : rz_cn 15 (rx_yn (rt_P sc fm) 423).cls = true := (by decide +kernel : rz_cn 15 (rt_yn 423).cls = true)
theorem wa_15_424 : rz_cn 15 (rx_yn (rt_P sc fm) 424).cls = true := (by decide +kernel : rz_cn 15 (rt_yn 424).cls = true)
theorem wa_15_427 : rz_cn 15 (rx_yn (rt_P sc fm) 427).cls = true := (by decide +kernel : rz_cn 15 (rt_yn 427).cls = true)
theorem wc_428_543 : rx_ct (rt_P sc fm) 428 543 = some (0, 392, 2) := (by decide +kernel : rt_ct 428 543 = some (0, 392, 2))
theorem wc_428_667 : rx_ct (rt_P sc fm) 428 667 = some (0, 425, 2) := (by decide +kernel : rt_ct 428 667 = some (0, 425, 2))
theorem wc_428_674 : rx_ct (rt_P sc fm) 428 674 = some (0, 424, 1) := (by decide +kernel : rt_ct 428 674 = some (0, 424, 1))
theorem wc_428_690 : rx_ct (rt_P sc fm) 428 690 = some (0, 427, 3) := (by decide +kernel : rt_ct 428 690 = some (0, 427, 3))
theorem wc_428_694 : rx_ct (rt_P sc fm) 428 694 = some (0, 423, 1) := (by decide +kernel : rt_ct 428 694 = some (0, 423, 1))
theorem wf_428_140 : rx_ft (rt_P sc fm) 428 140 = some (15, 32) := (by decide +kernel : rt_ft 428 140 = some (15, 32))
theorem wf_428_218 : rx_ft (rt_P sc fm) 428 218 = some (15, 60) := (by decide +kernel : rt_ft 428 218 = some (15, 60))
theorem wf_428_221 : rx_ft (rt_P sc fm) 428 221 = some (15, 61) := (by decide +kernel : rt_ft 428 221 = some (15, 61))
theorem wf_428_224 : rx_ft (rt_P sc fm) 428 224 = some (15, 62) := (by decide +kernel : rt_ft 428 224 = some (15, 62))
theorem wf_428_252 : rx_ft (rt_P sc fm) 428 252 = some (15, 75) := (by decide +kernel : rt_ft 428 252 = some (15, 75))
theorem wf_428_678 : rx_ft (rt_P sc fm) 428 678 = some (15, 74) := (by decide +kernel : rt_ft 428 678 = some (15, 74))
theorem wf_428_681 : rx_ft (rt_P sc fm) 428 681 = some (15, 77) := (by decide +kernel : rt_ft 428 681 = some (15, 77))
theorem wi_428_0 : ri (rt_P sc fm) 428 0 (.aload_n 0) (1) := ri_of (by decide +kernel) rfl
theorem wi_428_1 : ri (rt_P sc fm) 428 1 (.iload_n 2) (2) := ri_of (by decide +kernel) rfl
theorem wi_428_100 : ri (rt_P sc fm) 428 100 (.baload) (101) := ri_of (by decide +kernel) rfl
theorem wi_428_101 : ri (rt_P sc fm) 428 101 (.ifCond .eq 9) (104) := ri_of (by decide +kernel) rfl
theorem wi_428_104 : ri (rt_P sc fm) 428 104 (.iconst 1) (105) := ri_of (by decide +kernel) rfl
theorem wi_428_105 : ri (rt_P sc fm) 428 105 (.istore 6) (107) := ri_of (by decide +kernel) rfl
theorem wi_428_107 : ri (rt_P sc fm) 428 107 (.goto 24) (110) := ri_of (by decide +kernel) rfl
theorem wi_428_11 : ri (rt_P sc fm) 428 11 (.aload_n 0) (12) := ri_of (by decide +kernel) rfl
theorem wi_428_110 : ri (rt_P sc fm) 428 110 (.aload_n 0) (111) := ri_of (by decide +kernel) rfl
theorem wi_428_111 : ri (rt_P sc fm) 428 111 (.getfield 252) (114) := ri_of (by decide +kernel) rfl
theorem wi_428_114 : ri (rt_P sc fm) 428 114 (.aload_n 0) (115) := ri_of (by decide +kernel) rfl
theorem wi_428_115 : ri (rt_P sc fm) 428 115 (.getfield 678) (118) := ri_of (by decide +kernel) rfl
theorem wi_428_118 : ri (rt_P sc fm) 428 118 (.iload 8) (120) := ri_of (by decide +kernel) rfl
theorem wi_428_12 : ri (rt_P sc fm) 428 12 (.iconst 0) (13) := ri_of (by decide +kernel) rfl
theorem wi_428_120 : ri (rt_P sc fm) 428 120 (.iastore) (121) := ri_of (by decide +kernel) rfl
theorem wi_428_121 : ri (rt_P sc fm) 428 121 (.aload_n 0) (122) := ri_of (by decide +kernel) rfl
theorem wi_428_122 : ri (rt_P sc fm) 428 122 (.dup) (123) := ri_of (by decide +kernel) rfl
theorem wi_428_123 : ri (rt_P sc fm) 428 123 (.getfield 678) (126) := ri_of (by decide +kernel) rfl
theorem wi_428_126 : ri (rt_P sc fm) 428 126 (.iconst 1) (127) := ri_of (by decide +kernel) rfl
theorem wi_428_127 : ri (rt_P sc fm) 428 127 (.iadd) (128) := ri_of (by decide +kernel) rfl
theorem wi_428_128 : ri (rt_P sc fm) 428 128 (.putfield 678) (131) := ri_of (by decide +kernel) rfl
theorem wi_428_13 : ri (rt_P sc fm) 428 13 (.putfield 678) (16) := ri_of (by decide +kernel) rfl
theorem wi_428_131 : ri (rt_P sc fm) 428 131 (.iinc 7 1) (134) := ri_of (by decide +kernel) rfl
theorem wi_428_134 : ri (rt_P sc fm) 428 134 (.goto (-88)) (137) := ri_of (by decide +kernel) rfl
theorem wi_428_137 : ri (rt_P sc fm) 428 137 (.aload_n 0) (138) := ri_of (by decide +kernel) rfl
theorem wi_428_138 : ri (rt_P sc fm) 428 138 (.getfield 678) (141) := ri_of (by decide +kernel) rfl
theorem wi_428_141 : ri (rt_P sc fm) 428 141 (.ifCond .gt 8) (144) := ri_of (by decide +kernel) rfl
theorem wi_428_144 : ri (rt_P sc fm) 428 144 (.iload 6) (146) := ri_of (by decide +kernel) rfl
theorem wi_428_146 : ri (rt_P sc fm) 428 146 (.ifCond .eq 4) (149) := ri_of (by decide +kernel) rfl
theorem wi_428_149 : ri (rt_P sc fm) 428 149 (.return_) (150) := ri_of (by decide +kernel) rfl
theorem wi_428_150 : ri (rt_P sc fm) 428 150 (.iconst 0) (151) := ri_of (by decide +kernel) rfl
theorem wi_428_151 : ri (rt_P sc fm) 428 151 (.istore 7) (153) := ri_of (by decide +kernel) rfl
theorem wi_428_153 : ri (rt_P sc fm) 428 153 (.iload 7) (155) := ri_of (by decide +kernel) rfl
theorem wi_428_155 : ri (rt_P sc fm) 428 155 (.aload_n 0) (156) := ri_of (by decide +kernel) rfl
theorem wi_428_156 : ri (rt_P sc fm) 428 156 (.getfield 218) (159) := ri_of (by decide +kernel) rfl
theorem wi_428_159 : ri (rt_P sc fm) 428 159 (.iload 5) (161) := ri_of (by decide +kernel) rfl
theorem wi_428_16 : ri (rt_P sc fm) 428 16 (.aload_n 0) (17) := ri_of (by decide +kernel) rfl
theorem wi_428_161 : ri (rt_P sc fm) 428 161 (.iaload) (162) := ri_of (by decide +kernel) rfl
theorem wi_428_162 : ri (rt_P sc fm) 428 162 (.if_icmp .ge 53) (165) := ri_of (by decide +kernel) rfl
theorem wi_428_165 : ri (rt_P sc fm) 428 165 (.aload_n 0) (166) := ri_of (by decide +kernel) rfl
theorem wi_428_166 : ri (rt_P sc fm) 428 166 (.getfield 678) (169) := ri_of (by decide +kernel) rfl
theorem wi_428_169 : ri (rt_P sc fm) 428 169 (.ifCond .ne 46) (172) := ri_of (by decide +kernel) rfl
theorem wi_428_17 : ri (rt_P sc fm) 428 17 (.iconst 0) (18) := ri_of (by decide +kernel) rfl
theorem wi_428_172 : ri (rt_P sc fm) 428 172 (.aload_n 0) (173) := ri_of (by decide +kernel) rfl
theorem wi_428_173 : ri (rt_P sc fm) 428 173 (.iload 5) (175) := ri_of (by decide +kernel) rfl
theorem wi_428_175 : ri (rt_P sc fm) 428 175 (.iload 7) (177) := ri_of (by decide +kernel) rfl
theorem wi_428_177 : ri (rt_P sc fm) 428 177 (.lload_n 3) (178) := ri_of (by decide +kernel) rfl
theorem wi_428_178 : ri (rt_P sc fm) 428 178 (.invokevirtual 690) (181) := ri_of (by decide +kernel) rfl
theorem wi_428_18 : ri (rt_P sc fm) 428 18 (.putfield 681) (21) := ri_of (by decide +kernel) rfl
theorem wi_428_181 : ri (rt_P sc fm) 428 181 (.istore 8) (183) := ri_of (by decide +kernel) rfl
theorem wi_428_183 : ri (rt_P sc fm) 428 183 (.iload 8) (185) := ri_of (by decide +kernel) rfl
theorem wi_428_185 : ri (rt_P sc fm) 428 185 (.ifCond .ge 6) (188) := ri_of (by decide +kernel) rfl
theorem wi_428_188 : ri (rt_P sc fm) 428 188 (.goto 21) (191) := ri_of (by decide +kernel) rfl
theorem wi_428_191 : ri (rt_P sc fm) 428 191 (.aload_n 0) (192) := ri_of (by decide +kernel) rfl
theorem wi_428_192 : ri (rt_P sc fm) 428 192 (.getfield 252) (195) := ri_of (by decide +kernel) rfl
theorem wi_428_195 : ri (rt_P sc fm) 428 195 (.iconst 0) (196) := ri_of (by decide +kernel) rfl
theorem wi_428_196 : ri (rt_P sc fm) 428 196 (.iload 8) (198) := ri_of (by decide +kernel) rfl
theorem wi_428_198 : ri (rt_P sc fm) 428 198 (.iastore) (199) := ri_of (by decide +kernel) rfl
theorem wi_428_199 : ri (rt_P sc fm) 428 199 (.aload_n 0) (200) := ri_of (by decide +kernel) rfl
theorem wi_428_2 : ri (rt_P sc fm) 428 2 (.invokevirtual 674) (5) := ri_of (by decide +kernel) rfl
theorem wi_428_200 : ri (rt_P sc fm) 428 200 (.iconst 1) (201) := ri_of (by decide +kernel) rfl
theorem wi_428_201 : ri (rt_P sc fm) 428 201 (.putfield 678) (204) := ri_of (by decide +kernel) rfl
theorem wi_428_204 : ri (rt_P sc fm) 428 204 (.aload_n 0) (205) := ri_of (by decide +kernel) rfl
theorem wi_428_205 : ri (rt_P sc fm) 428 205 (.iconst 1) (206) := ri_of (by decide +kernel) rfl
theorem wi_428_206 : ri (rt_P sc fm) 428 206 (.putfield 684) (209) := ri_of (by decide +kernel) rfl
theorem wi_428_209 : ri (rt_P sc fm) 428 209 (.iinc 7 1) (212) := ri_of (by decide +kernel) rfl
theorem wi_428_21 : ri (rt_P sc fm) 428 21 (.aload_n 0) (22) := ri_of (by decide +kernel) rfl
theorem wi_428_212 : ri (rt_P sc fm) 428 212 (.goto (-59)) (215) := ri_of (by decide +kernel) rfl
theorem wi_428_215 : ri (rt_P sc fm) 428 215 (.aload_n 0) (216) := ri_of (by decide +kernel) rfl
theorem wi_428_216 : ri (rt_P sc fm) 428 216 (.getfield 678) (219) := ri_of (by decide +kernel) rfl
theorem wi_428_219 : ri (rt_P sc fm) 428 219 (.ifCond .gt 18) (222) := ri_of (by decide +kernel) rfl
theorem wi_428_22 : ri (rt_P sc fm) 428 22 (.iconst 0) (23) := ri_of (by decide +kernel) rfl
theorem wi_428_222 : ri (rt_P sc fm) 428 222 (.iload_n 2) (223) := ri_of (by decide +kernel) rfl
theorem wi_428_223 : ri (rt_P sc fm) 428 223 (.bipush 100) (225) := ri_of (by decide +kernel) rfl
theorem wi_428_225 : ri (rt_P sc fm) 428 225 (.if_icmp .ge 13) (228) := ri_of (by decide +kernel) rfl
theorem wi_428_228 : ri (rt_P sc fm) 428 228 (.aload_n 0) (229) := ri_of (by decide +kernel) rfl
theorem wi_428_229 : ri (rt_P sc fm) 428 229 (.getfield 140) (232) := ri_of (by decide +kernel) rfl
theorem wi_428_23 : ri (rt_P sc fm) 428 23 (.putfield 684) (26) := ri_of (by decide +kernel) rfl
theorem wi_428_232 : ri (rt_P sc fm) 428 232 (.iload_n 2) (233) := ri_of (by decide +kernel) rfl
theorem wi_428_233 : ri (rt_P sc fm) 428 233 (.baload) (234) := ri_of (by decide +kernel) rfl
theorem wi_428_234 : ri (rt_P sc fm) 428 234 (.ifCond .ne 4) (237) := ri_of (by decide +kernel) rfl
theorem wi_428_237 : ri (rt_P sc fm) 428 237 (.return_) (238) := ri_of (by decide +kernel) rfl
theorem wi_428_238 : ri (rt_P sc fm) 428 238 (.aload_n 0) (239) := ri_of (by decide +kernel) rfl
theorem wi_428_239 : ri (rt_P sc fm) 428 239 (.iload 5) (241) := ri_of (by decide +kernel) rfl
theorem wi_428_241 : ri (rt_P sc fm) 428 241 (.invokevirtual 694) (244) := ri_of (by decide +kernel) rfl
theorem wi_428_244 : ri (rt_P sc fm) 428 244 (.istore 5) (246) := ri_of (by decide +kernel) rfl
theorem wi_428_246 : ri (rt_P sc fm) 428 246 (.aload_n 0) (247) := ri_of (by decide +kernel) rfl
theorem wi_428_247 : ri (rt_P sc fm) 428 247 (.dup) (248) := ri_of (by decide +kernel) rfl
theorem wi_428_248 : ri (rt_P sc fm) 428 248 (.getfield 681) (251) := ri_of (by decide +kernel) rfl
theorem wi_428_251 : ri (rt_P sc fm) 428 251 (.iconst 1) (252) := ri_of (by decide +kernel) rfl
theorem wi_428_252 : ri (rt_P sc fm) 428 252 (.iadd) (253) := ri_of (by decide +kernel) rfl
theorem wi_428_253 : ri (rt_P sc fm) 428 253 (.putfield 681) (256) := ri_of (by decide +kernel) rfl
theorem wi_428_256 : ri (rt_P sc fm) 428 256 (.goto (-227)) (259) := ri_of (by decide +kernel) rfl
theorem wi_428_259 : ri (rt_P sc fm) 428 259 (.return_) (260) := ri_of (by decide +kernel) rfl
theorem wi_428_26 : ri (rt_P sc fm) 428 26 (.iload_n 1) (27) := ri_of (by decide +kernel) rfl
theorem wi_428_27 : ri (rt_P sc fm) 428 27 (.istore 5) (29) := ri_of (by decide +kernel) rfl
theorem wi_428_29 : ri (rt_P sc fm) 428 29 (.iload 5) (31) := ri_of (by decide +kernel) rfl
theorem wi_428_31 : ri (rt_P sc fm) 428 31 (.ifCond .lt 228) (34) := ri_of (by decide +kernel) rfl
theorem wi_428_34 : ri (rt_P sc fm) 428 34 (.aload_n 0) (35) := ri_of (by decide +kernel) rfl
theorem wi_428_35 : ri (rt_P sc fm) 428 35 (.iload 5) (37) := ri_of (by decide +kernel) rfl
theorem wi_428_37 : ri (rt_P sc fm) 428 37 (.putfield 687) (40) := ri_of (by decide +kernel) rfl
theorem wi_428_40 : ri (rt_P sc fm) 428 40 (.iconst 0) (41) := ri_of (by decide +kernel) rfl
theorem wi_428_41 : ri (rt_P sc fm) 428 41 (.istore 6) (43) := ri_of (by decide +kernel) rfl
theorem wi_428_43 : ri (rt_P sc fm) 428 43 (.iconst 0) (44) := ri_of (by decide +kernel) rfl
theorem wi_428_44 : ri (rt_P sc fm) 428 44 (.istore 7) (46) := ri_of (by decide +kernel) rfl
theorem wi_428_46 : ri (rt_P sc fm) 428 46 (.iload 7) (48) := ri_of (by decide +kernel) rfl
theorem wi_428_48 : ri (rt_P sc fm) 428 48 (.aload_n 0) (49) := ri_of (by decide +kernel) rfl
theorem wi_428_49 : ri (rt_P sc fm) 428 49 (.getfield 218) (52) := ri_of (by decide +kernel) rfl
theorem wi_428_5 : ri (rt_P sc fm) 428 5 (.lstore_n 3) (6) := ri_of (by decide +kernel) rfl
theorem wi_428_52 : ri (rt_P sc fm) 428 52 (.iload 5) (54) := ri_of (by decide +kernel) rfl
theorem wi_428_54 : ri (rt_P sc fm) 428 54 (.iaload) (55) := ri_of (by decide +kernel) rfl
theorem wi_428_55 : ri (rt_P sc fm) 428 55 (.if_icmp .ge 82) (58) := ri_of (by decide +kernel) rfl
theorem wi_428_58 : ri (rt_P sc fm) 428 58 (.aload_n 0) (59) := ri_of (by decide +kernel) rfl
theorem wi_428_59 : ri (rt_P sc fm) 428 59 (.iload 5) (61) := ri_of (by decide +kernel) rfl
theorem wi_428_6 : ri (rt_P sc fm) 428 6 (.aload_n 0) (7) := ri_of (by decide +kernel) rfl
theorem wi_428_61 : ri (rt_P sc fm) 428 61 (.iload 7) (63) := ri_of (by decide +kernel) rfl
theorem wi_428_63 : ri (rt_P sc fm) 428 63 (.invokevirtual 543) (66) := ri_of (by decide +kernel) rfl
theorem wi_428_66 : ri (rt_P sc fm) 428 66 (.istore 8) (68) := ri_of (by decide +kernel) rfl
theorem wi_428_68 : ri (rt_P sc fm) 428 68 (.aload_n 0) (69) := ri_of (by decide +kernel) rfl
theorem wi_428_69 : ri (rt_P sc fm) 428 69 (.getfield 221) (72) := ri_of (by decide +kernel) rfl
theorem wi_428_7 : ri (rt_P sc fm) 428 7 (.lconst 0) (8) := ri_of (by decide +kernel) rfl
theorem wi_428_72 : ri (rt_P sc fm) 428 72 (.iload 8) (74) := ri_of (by decide +kernel) rfl
theorem wi_428_74 : ri (rt_P sc fm) 428 74 (.laload) (75) := ri_of (by decide +kernel) rfl
theorem wi_428_75 : ri (rt_P sc fm) 428 75 (.lload_n 3) (76) := ri_of (by decide +kernel) rfl
theorem wi_428_76 : ri (rt_P sc fm) 428 76 (.lcmp) (77) := ri_of (by decide +kernel) rfl
theorem wi_428_77 : ri (rt_P sc fm) 428 77 (.ifCond .ne 54) (80) := ri_of (by decide +kernel) rfl
theorem wi_428_8 : ri (rt_P sc fm) 428 8 (.putfield 664) (11) := ri_of (by decide +kernel) rfl
theorem wi_428_80 : ri (rt_P sc fm) 428 80 (.aload_n 0) (81) := ri_of (by decide +kernel) rfl
theorem wi_428_81 : ri (rt_P sc fm) 428 81 (.iload 5) (83) := ri_of (by decide +kernel) rfl
theorem wi_428_83 : ri (rt_P sc fm) 428 83 (.iload 7) (85) := ri_of (by decide +kernel) rfl
theorem wi_428_85 : ri (rt_P sc fm) 428 85 (.invokevirtual 667) (88) := ri_of (by decide +kernel) rfl
theorem wi_428_88 : ri (rt_P sc fm) 428 88 (.ifCond .ne 6) (91) := ri_of (by decide +kernel) rfl
theorem wi_428_91 : ri (rt_P sc fm) 428 91 (.goto 40) (94) := ri_of (by decide +kernel) rfl
theorem wi_428_94 : ri (rt_P sc fm) 428 94 (.aload_n 0) (95) := ri_of (by decide +kernel) rfl
theorem wi_428_95 : ri (rt_P sc fm) 428 95 (.getfield 224) (98) := ri_of (by decide +kernel) rfl
theorem wi_428_98 : ri (rt_P sc fm) 428 98 (.iload 8) (100) := ri_of (by decide +kernel) rfl
theorem wm_423 : rx_ml (rt_P sc fm) 423 = 7 := (by decide +kernel : rt_ml 423 = 7)
theorem wm_424 : rx_ml (rt_P sc fm) 424 = 2 := (by decide +kernel : rt_ml 424 = 2)
theorem wm_427 : rx_ml (rt_P sc fm) 427 = 6 := (by decide +kernel : rt_ml 427 = 6)
theorem wp_428_664 : rx_pt (rt_P sc fm) 428 664 = some (15, 73, .long) := (by decide +kernel : rt_pt 428 664 = some (15, 73, .long))
theorem wp_428_678 : rx_pt (rt_P sc fm) 428 678 = some (15, 74, .int) := (by decide +kernel : rt_pt 428 678 = some (15, 74, .int))
theorem wp_428_681 : rx_pt (rt_P sc fm) 428 681 = some (15, 77, .int) := (by decide +kernel : rt_pt 428 681 = some (15, 77, .int))
theorem wp_428_684 : rx_pt (rt_P sc fm) 428 684 = some (15, 78, .boolean) := (by decide +kernel : rt_pt 428 684 = some (15, 78, .boolean))
theorem wp_428_687 : rx_pt (rt_P sc fm) 428 687 = some (15, 76, .int) := (by decide +kernel : rt_pt 428 687 = some (15, 76, .int))
theorem wr_428 : rx_rt (rt_P sc fm) 428 = none := (by decide +kernel : rt_rt 428 = none)
/-- MarkHouseModel.effect(II)V -/
def d_428 (n : Nat) (a1 : Int32) (a2 : Int32) (c : cS) : Option (cS) :=
  Option.bind (d_424 n a2 c) (fun v1 =>
  lt (pL c 174 73 0) (fun c3 =>
  lt (pI c3 174 74 0) (fun c5 =>
  lt (pI c5 174 77 0) (fun c7 =>
  lt (pI c7 174 78 0) (fun c9 =>
  Option.bind (whl (R := (cS) ⊕ (cS) ⊕ (cS)) (fun s12 : Int32 × cS =>
    if s12.1 < 0 then
      some (.inr (.inl s12.2))
    else
      lt (pI s12.2 174 76 s12.1) (fun c13 =>
      Option.bind (whl (R := (Int32 × cS)) (fun s17 : Int32 × Int32 × cS =>
        if ib s12.1 1219 then
        if (s17.2.2.1 222 (ix s12.1)) ≤ s17.2.1 then
          some (.inr (s17.1, s17.2.2))
        else
          Option.bind (d_392 n s12.1 s17.2.1) (fun v19 =>
          if ib v19 24380 then
          jn (fun p22 : Int32 × cS =>
            lt (s17.2.1 + 1 : Int32) (fun v24 =>
            some (.inl (p22.1, v24, p22.2))))
          (fun j131 =>
          if (lg_cmp (s17.2.2.2 223 (ix v19)) v1) = 0 then
            Option.bind (d_425 n s12.1 s17.2.1 s17.2.2) (fun v26 =>
            if v26 = 0 then
              j131 (s17.1, s17.2.2)
            else
              if ib v19 24380 then
              if (s17.2.2.1 224 (ix v19)) = 0 then
                if ib (s17.2.2.1 174 74) 20 then
                lt (pI s17.2.2 233 (ix (s17.2.2.1 174 74)) v19) (fun c29 =>
                lt (pI c29 174 74 ((c29.1 174 74) + 1)) (fun c31 =>
                j131 (s17.1, c31)))
                else none
              else
                j131 (1, s17.2.2)
              else none)
          else
            j131 (s17.1, s17.2.2))
          else none)
        else none) n (0, 0, c13))
      (fun x34 : Int32 × cS =>
        if 0 < (x34.2.1 174 74) then
          some (.inr (.inr (.inl x34.2)))
        else
          if x34.1 = 0 then
            Option.bind (whl (R := (cS)) (fun s36 : Int32 × cS =>
              if ib s12.1 1219 then
              if (s36.2.1 222 (ix s12.1)) ≤ s36.1 then
                some (.inr s36.2)
              else
                if (s36.2.1 174 74) = 0 then
                  Option.bind (d_427 n s12.1 s36.1 v1 s36.2) (fun r38 =>
                  jn (fun p40 : cS =>
                    lt (s36.1 + 1 : Int32) (fun v42 =>
                    some (.inl (v42, p40))))
                  (fun j209 =>
                  if 0 ≤ r38.1 then
                    if ib 0 20 then
                    lt (pI r38.2 233 (ix 0) r38.1) (fun c45 =>
                    lt (pI c45 174 74 1) (fun c47 =>
                    lt (pI c47 174 78 1) (fun c49 =>
                    j209 c49)))
                    else none
                  else
                    j209 r38.2))
                else
                  some (.inr s36.2)
              else none) n (0, x34.2))
            (fun x51 : cS =>
              if 0 < (x51.1 174 74) then
                some (.inr (.inr (.inr x51)))
              else
                jn (fun p52 : Unit =>
                  Option.bind (d_423 n s12.1 x51) (fun v53 =>
                  lt (pI x51 174 77 ((x51.1 174 77) + 1)) (fun c55 =>
                  some (.inl (v53, c55)))))
                (fun j238 =>
                if 100 ≤ a2 then
                  j238 ()
                else
                  if ib a2 12 then
                  if (x51.1 196 (ix a2)) = 0 then
                    some (.inr (.inr (.inr x51)))
                  else
                    j238 ()
                  else none))
          else
            some (.inr (.inr (.inl x34.2)))))) n (a1, c9))
  (Sum.elim (fun x58 : cS =>
    some x58)
  (Sum.elim (fun x59 : cS =>
    some x59)
  (fun x60 : cS =>
    some x60))))))))
set_option maxRecDepth 100000 in
set_option maxHeartbeats 4000000 in
theorem sp_428 {F Lo n : Nat} {a1 : Int32} {a2 : Int32} {c y : cS} {w : cW} {K : cS → Prop} {Q : ((Option Value) ⊕ String) → List va_E → Prop} (hw : rOK fm w) (hF : 3 ≤ F) (hLo : 77 ≤ Lo)  (h : wp (d_428 n a1 a2 c) K) (hQ : ∀ r, K r → Q (.inl none) (hq false r y w)) : rs (rt_P sc fm) 428 F Lo 0 [(0, .ref 174), (1, .int a1), (2, .int a2)] [] (hq false c y w) Q := by
  unfold d_428 at h
  obtain ⟨lv, elv⟩ : ∃ lv : rx_L, lv = [(0, .ref 174), (1, .int a1), (2, .int a2)] := ⟨_, rfl⟩
  rw [← elv]
  have l0 : rx_ld lv 0 = some (.ref 174) := by rw [elv]; rfl
  have l1 : rx_ld lv 1 = some (.int a1) := by rw [elv]; rfl
  have l2 : rx_ld lv 2 = some (.int a2) := by rw [elv]; rfl
  refine rs_aldn wi_428_0 l0 ?_
  refine rs_ildn wi_428_1 l2 ?_
  refine rs_V wi_428_2 wc_428_674 rfl (dq_isa tf_174_0 wa_15_424) (Nat.le_trans (by decide) hF) (ml_le wm_424 (Nat.le_trans (by decide) hLo)) rfl (sp_424 hw (Nat.le_trans (by decide : 0 ≤ 3 - 1) (Nat.sub_le_sub_right hF 1)) (ml_sub wm_424 (Nat.le_trans (by decide : 0 ≤ 77 - 21) (Nat.sub_le_sub_right hLo 21))) (wp_bind h) (fun v1 h => rs_back1 ?_))
  refine dl_lstn wi_428_5 rfl (fun lv l3 t2 => ?_)
  have l0 := t2 _ _ (by decide) (by decide) (Or.inl rfl) l0
  have l1 := t2 _ _ (by decide) (by decide) (Or.inl rfl) l1
  have l2 := t2 _ _ (by decide) (by decide) (Or.inl rfl) l2
  refine rs_aldn wi_428_6 l0 ?_
  refine rs_pure wi_428_7 rfl ?_
  refine rs_topl (v := 0) (by decide) ?_
  obtain ⟨c3, e4, h⟩ := wp_lt h
  refine dq_pl wi_428_8 wp_428_664 tf_174_73 rfl rfl e4 ?_
  refine rs_aldn wi_428_11 l0 ?_
  refine rs_pure wi_428_12 rfl ?_
  refine rs_topi (v := 0) (by decide) ?_
  obtain ⟨c5, e6, h⟩ := wp_lt h
  refine dq_pi wi_428_13 wp_428_678 tf_174_74 rfl rfl e6 ?_
  refine rs_aldn wi_428_16 l0 ?_
  refine rs_pure wi_428_17 rfl ?_
  refine rs_topi (v := 0) (by decide) ?_
  obtain ⟨c7, e8, h⟩ := wp_lt h
  refine dq_pi wi_428_18 wp_428_681 tf_174_77 rfl rfl e8 ?_
  refine rs_aldn wi_428_21 l0 ?_
  refine rs_pure wi_428_22 rfl ?_
  refine rs_topi (v := 0) (by decide) ?_
  obtain ⟨c9, e10, h⟩ := wp_lt h
  refine dq_pi wi_428_23 wp_428_684 tf_174_78 (nb_n (by decide)) (nb_f (by decide)) e10 ?_
  refine rs_ildn wi_428_26 l1 ?_
  refine dl_ist wi_428_27 rfl (fun lv l5 t11 => ?_)
  have l0 := t11 _ _ (by decide) (Or.inl rfl) l0
  have l2 := t11 _ _ (by decide) (Or.inl rfl) l2
  have l3 := t11 _ _ (by decide) (Or.inr (by decide)) l3
  refine whl_ex (A := fun s12 : Int32 × cS => ∀ lv, rx_ld lv 0 = some (.ref 174) → rx_ld lv 2 = some (.int a2) → rx_ld lv 3 = some (.long v1) → rx_ld lv 5 = some (.int s12.1) → rs (rt_P sc fm) 428 F Lo 29 lv [] (hq false s12.2 y w) Q) (B := (Sum.elim (fun x58 : cS => ∀ lv, rs (rt_P sc fm) 428 F Lo 259 lv [] (hq false x58 y w) Q) (Sum.elim (fun x59 : cS => ∀ lv, rs (rt_P sc fm) 428 F Lo 149 lv [] (hq false x59 y w) Q) (fun x60 : cS => ∀ lv, rs (rt_P sc fm) 428 F Lo 237 lv [] (hq false x60 y w) Q)))) ?_ ?_ _ _ (wp_bind h) _ l0 l2 l3 l5
  · intro s12 h lv l0 l2 l3 l5
    refine rs_ild wi_428_29 l5 ?_
    refine rs_iflt (tg := 259) wi_428_31 ⟨by decide, by decide⟩ (fun q => ?_) (fun q => ?_)
    ·
      have h := wp_pos h q
      exact h _
    ·
      have h := wp_neg h q
      refine rs_aldn wi_428_34 l0 ?_
      refine rs_ild wi_428_35 l5 ?_
      obtain ⟨c13, e14, h⟩ := wp_lt h
      refine dq_pi wi_428_37 wp_428_687 tf_174_76 rfl rfl e14 ?_
      refine rs_pure wi_428_40 rfl ?_
      refine rs_topi (v := 0) (by decide) ?_
      refine dl_ist wi_428_41 rfl (fun lv l6 t15 => ?_)
      have l0 := t15 _ _ (by decide) (Or.inl rfl) l0
      have l2 := t15 _ _ (by decide) (Or.inl rfl) l2
      have l3 := t15 _ _ (by decide) (Or.inr (by decide)) l3
      have l5 := t15 _ _ (by decide) (Or.inl rfl) l5
      refine rs_pure wi_428_43 rfl ?_
      refine rs_topi (v := 0) (by decide) ?_
      refine dl_ist wi_428_44 rfl (fun lv l7 t16 => ?_)
      have l0 := t16 _ _ (by decide) (Or.inl rfl) l0
      have l2 := t16 _ _ (by decide) (Or.inl rfl) l2
      have l3 := t16 _ _ (by decide) (Or.inr (by decide)) l3
      have l5 := t16 _ _ (by decide) (Or.inl rfl) l5
      have l6 := t16 _ _ (by decide) (Or.inl rfl) l6
      refine whl_ex (A := fun s17 : Int32 × Int32 × cS => ∀ lv, rx_ld lv 0 = some (.ref 174) → rx_ld lv 2 = some (.int a2) → rx_ld lv 3 = some (.long v1) → rx_ld lv 5 = some (.int s12.1) → rx_ld lv 6 = some (.int s17.1) → rx_ld lv 7 = some (.int s17.2.1) → rs (rt_P sc fm) 428 F Lo 46 lv [] (hq false s17.2.2 y w) Q) (B := (fun x34 : Int32 × cS => ∀ lv, rx_ld lv 0 = some (.ref 174) → rx_ld lv 2 = some (.int a2) → rx_ld lv 3 = some (.long v1) → rx_ld lv 5 = some (.int s12.1) → rx_ld lv 6 = some (.int x34.1) → rs (rt_P sc fm) 428 F Lo 137 lv [] (hq false x34.2 y w) Q)) ?_ ?_ _ _ (wp_bind h) _ l0 l2 l3 l5 l6 l7
      · intro s17 h lv l0 l2 l3 l5 l6 l7
        refine rs_ild wi_428_46 l7 ?_
        refine rs_aldn wi_428_48 l0 ?_
        refine dq_gr wi_428_49 wf_428_218 tf_174_60 ?_
        refine rs_ild wi_428_52 l5 ?_
        obtain ⟨g18, h⟩ := wp_gd h
        refine dq_iald wi_428_54 t_222 g18 ?_
        refine rs_icge (tg := 137) wi_428_55 ⟨by decide, by decide⟩ (fun q => ?_) (fun q => ?_)
        ·
          have h := wp_pos h q
          exact h _ l0 l2 l3 l5 l6
        ·
          have h := wp_neg h q
          refine rs_aldn wi_428_58 l0 ?_
          refine rs_ild wi_428_59 l5 ?_
          refine rs_ild wi_428_61 l7 ?_
          refine rs_V wi_428_63 wc_428_543 rfl (dq_isa tf_174_0 wa_15_392) (Nat.le_trans (by decide) hF) (ml_le wm_392 (Nat.le_trans (by decide) hLo)) rfl (sp_392 (Nat.le_trans (by decide : 0 ≤ 3 - 1) (Nat.sub_le_sub_right hF 1)) (ml_sub wm_392 (Nat.le_trans (by decide : 0 ≤ 77 - 22) (Nat.sub_le_sub_right hLo 22))) (wp_bind h) (fun v19 h => rs_back1 ?_))
          refine dl_ist wi_428_66 rfl (fun lv l8 t20 => ?_)
          have l0 := t20 _ _ (by decide) (Or.inl rfl) l0
          have l2 := t20 _ _ (by decide) (Or.inl rfl) l2
          have l3 := t20 _ _ (by decide) (Or.inr (by decide)) l3
          have l5 := t20 _ _ (by decide) (Or.inl rfl) l5
          have l6 := t20 _ _ (by decide) (Or.inl rfl) l6
          have l7 := t20 _ _ (by decide) (Or.inl rfl) l7
          refine rs_aldn wi_428_68 l0 ?_
          refine dq_gr wi_428_69 wf_428_221 tf_174_61 ?_
          refine rs_ild wi_428_72 l8 ?_
          obtain ⟨g21, h⟩ := wp_gd h
          refine dq_lald wi_428_74 t_223 g21 ?_
          refine rs_lldn wi_428_75 l3 ?_
          refine rs_pure wi_428_76 rfl ?_
          refine wp_jn (B := fun p22 : Int32 × cS => ∀ lv, rx_ld lv 0 = some (.ref 174) → rx_ld lv 2 = some (.int a2) → rx_ld lv 3 = some (.long v1) → rx_ld lv 5 = some (.int s12.1) → rx_ld lv 6 = some (.int p22.1) → rx_ld lv 7 = some (.int s17.2.1) → rs (rt_P sc fm) 428 F Lo 131 lv [] (hq false p22.2 y w) Q) h (fun p22 h lv l0 l2 l3 l5 l6 l7 => ?_) (fun j131 hj131 h => ?_)
          ·
            obtain ⟨v24, e25, h⟩ := wp_lt h
            refine dl_inc wi_428_131 l7 rfl e25 (fun lv l7 t23 => ?_)
            have l0 := t23 _ _ (by decide) (Or.inl rfl) l0
            have l2 := t23 _ _ (by decide) (Or.inl rfl) l2
            have l3 := t23 _ _ (by decide) (Or.inr (by decide)) l3
            have l5 := t23 _ _ (by decide) (Or.inl rfl) l5
            have l6 := t23 _ _ (by decide) (Or.inl rfl) l6
            refine rs_goto (tg := 46) wi_428_134 ⟨by decide, by decide⟩ ?_
            exact h _ l0 l2 l3 l5 l6 l7
          refine rs_ifne (tg := 131) wi_428_77 ⟨by decide, by decide⟩ (fun q => ?_) (fun q => ?_)
          ·
            have h := wp_neg h q
            exact hj131 _ h _ l0 l2 l3 l5 l6 l7
          ·
            have h := wp_pos h q
            refine rs_aldn wi_428_80 l0 ?_
            refine rs_ild wi_428_81 l5 ?_
            refine rs_ild wi_428_83 l7 ?_
            refine rs_V wi_428_85 wc_428_667 rfl (dq_isa tf_174_0 wa_15_425) (Nat.le_trans (by decide) hF) (ml_le wm_425 (Nat.le_trans (by decide) hLo)) rfl (sp_425 hw (Nat.le_trans (by decide : 1 ≤ 3 - 1) (Nat.sub_le_sub_right hF 1)) (ml_sub wm_425 (Nat.le_trans (by decide : 23 ≤ 77 - 29) (Nat.sub_le_sub_right hLo 29))) (wp_bind h) (fun v26 h => rs_back1 ?_))
            refine rs_ifne (tg := 94) wi_428_88 ⟨by decide, by decide⟩ (fun q => ?_) (fun q => ?_)
            ·
              have h := wp_neg h q
              refine rs_aldn wi_428_94 l0 ?_
              refine dq_gr wi_428_95 wf_428_224 tf_174_62 ?_
              refine rs_ild wi_428_98 l8 ?_
              obtain ⟨g27, h⟩ := wp_gd h
              refine dq_zald wi_428_100 t_224 g27 ?_
              refine rs_ifeq (tg := 110) wi_428_101 ⟨by decide, by decide⟩ (fun q => ?_) (fun q => ?_)
              ·
                have h := wp_pos h q
                refine rs_aldn wi_428_110 l0 ?_
                refine dq_gr wi_428_111 wf_428_252 tf_174_75 ?_
                refine rs_aldn wi_428_114 l0 ?_
                refine dq_gi wi_428_115 wf_428_678 tf_174_74 ?_
                refine rs_ild wi_428_118 l8 ?_
                obtain ⟨g28, h⟩ := wp_gd h
                obtain ⟨c29, e30, h⟩ := wp_lt h
                refine dq_iast wi_428_120 t_233 g28 e30 ?_
                refine rs_aldn wi_428_121 l0 ?_
                refine rs_pure wi_428_122 rfl ?_
                refine dq_gi wi_428_123 wf_428_678 tf_174_74 ?_
                refine rs_pure wi_428_126 rfl ?_
                refine rs_topi (v := 1) (by decide) ?_
                refine rs_pure wi_428_127 rfl ?_
                obtain ⟨c31, e32, h⟩ := wp_lt h
                refine dq_pi wi_428_128 wp_428_678 tf_174_74 rfl rfl e32 ?_
                exact hj131 _ h _ l0 l2 l3 l5 l6 l7
              ·
                have h := wp_neg h q
                refine rs_pure wi_428_104 rfl ?_
                refine rs_topi (v := 1) (by decide) ?_
                refine dl_ist wi_428_105 rfl (fun lv l6 t33 => ?_)
                have l0 := t33 _ _ (by decide) (Or.inl rfl) l0
                have l2 := t33 _ _ (by decide) (Or.inl rfl) l2
                have l3 := t33 _ _ (by decide) (Or.inr (by decide)) l3
                have l5 := t33 _ _ (by decide) (Or.inl rfl) l5
                have l7 := t33 _ _ (by decide) (Or.inl rfl) l7
                refine rs_goto (tg := 131) wi_428_107 ⟨by decide, by decide⟩ ?_
                exact hj131 _ h _ l0 l2 l3 l5 l6 l7
            ·
              have h := wp_pos h q
              refine rs_goto (tg := 131) wi_428_91 ⟨by decide, by decide⟩ ?_
              exact hj131 _ h _ l0 l2 l3 l5 l6 l7
      ·
        intro x34 h lv l0 l2 l3 l5 l6
        refine rs_aldn wi_428_137 l0 ?_
        refine dq_gi wi_428_138 wf_428_678 tf_174_74 ?_
        refine rs_ifgt (tg := 149) wi_428_141 ⟨by decide, by decide⟩ (fun q => ?_) (fun q => ?_)
        ·
          have h := wp_pos h q
          exact h _
        ·
          have h := wp_neg h q
          refine rs_ild wi_428_144 l6 ?_
          refine rs_ifeq (tg := 150) wi_428_146 ⟨by decide, by decide⟩ (fun q => ?_) (fun q => ?_)
          ·
            have h := wp_pos h q
            refine rs_pure wi_428_150 rfl ?_
            refine rs_topi (v := 0) (by decide) ?_
            refine dl_ist wi_428_151 rfl (fun lv l7 t35 => ?_)
            have l0 := t35 _ _ (by decide) (Or.inl rfl) l0
            have l2 := t35 _ _ (by decide) (Or.inl rfl) l2
            have l3 := t35 _ _ (by decide) (Or.inr (by decide)) l3
            have l5 := t35 _ _ (by decide) (Or.inl rfl) l5
            refine whl_ex (A := fun s36 : Int32 × cS => ∀ lv, rx_ld lv 0 = some (.ref 174) → rx_ld lv 2 = some (.int a2) → rx_ld lv 3 = some (.long v1) → rx_ld lv 5 = some (.int s12.1) → rx_ld lv 7 = some (.int s36.1) → rs (rt_P sc fm) 428 F Lo 153 lv [] (hq false s36.2 y w) Q) (B := (fun x51 : cS => ∀ lv, rx_ld lv 0 = some (.ref 174) → rx_ld lv 2 = some (.int a2) → rx_ld lv 3 = some (.long v1) → rx_ld lv 5 = some (.int s12.1) → rs (rt_P sc fm) 428 F Lo 215 lv [] (hq false x51 y w) Q)) ?_ ?_ _ _ (wp_bind h) _ l0 l2 l3 l5 l7
            · intro s36 h lv l0 l2 l3 l5 l7
              refine rs_ild wi_428_153 l7 ?_
              refine rs_aldn wi_428_155 l0 ?_
              refine dq_gr wi_428_156 wf_428_218 tf_174_60 ?_
              refine rs_ild wi_428_159 l5 ?_
              obtain ⟨g37, h⟩ := wp_gd h
              refine dq_iald wi_428_161 t_222 g37 ?_
              refine rs_icge (tg := 215) wi_428_162 ⟨by decide, by decide⟩ (fun q => ?_) (fun q => ?_)
              ·
                have h := wp_pos h q
                exact h _ l0 l2 l3 l5
              ·
                have h := wp_neg h q
                refine rs_aldn wi_428_165 l0 ?_
                refine dq_gi wi_428_166 wf_428_678 tf_174_74 ?_
                refine rs_ifne (tg := 215) wi_428_169 ⟨by decide, by decide⟩ (fun q => ?_) (fun q => ?_)
                ·
                  have h := wp_neg h q
                  exact h _ l0 l2 l3 l5
                ·
                  have h := wp_pos h q
                  refine rs_aldn wi_428_172 l0 ?_
                  refine rs_ild wi_428_173 l5 ?_
                  refine rs_ild wi_428_175 l7 ?_
                  refine rs_lldn wi_428_177 l3 ?_
                  refine rs_V wi_428_178 wc_428_690 rfl (dq_isa tf_174_0 wa_15_427) (Nat.le_trans (by decide) hF) (ml_le wm_427 (Nat.le_trans (by decide) hLo)) rfl (sp_427 hw (Nat.le_trans (by decide : 2 ≤ 3 - 1) (Nat.sub_le_sub_right hF 1)) (ml_sub wm_427 (Nat.le_trans (by decide : 52 ≤ 77 - 25) (Nat.sub_le_sub_right hLo 25))) (wp_bind h) (fun r38 h => rs_back1 ?_))
                  refine dl_ist wi_428_181 rfl (fun lv l8 t39 => ?_)
                  have l0 := t39 _ _ (by decide) (Or.inl rfl) l0
                  have l2 := t39 _ _ (by decide) (Or.inl rfl) l2
                  have l3 := t39 _ _ (by decide) (Or.inr (by decide)) l3
                  have l5 := t39 _ _ (by decide) (Or.inl rfl) l5
                  have l7 := t39 _ _ (by decide) (Or.inl rfl) l7
                  refine rs_ild wi_428_183 l8 ?_
                  refine wp_jn (B := fun p40 : cS => ∀ lv, rx_ld lv 0 = some (.ref 174) → rx_ld lv 2 = some (.int a2) → rx_ld lv 3 = some (.long v1) → rx_ld lv 5 = some (.int s12.1) → rx_ld lv 7 = some (.int s36.1) → rs (rt_P sc fm) 428 F Lo 209 lv [] (hq false p40 y w) Q) h (fun p40 h lv l0 l2 l3 l5 l7 => ?_) (fun j209 hj209 h => ?_)
                  ·
                    obtain ⟨v42, e43, h⟩ := wp_lt h
                    refine dl_inc wi_428_209 l7 rfl e43 (fun lv l7 t41 => ?_)
                    have l0 := t41 _ _ (by decide) (Or.inl rfl) l0
                    have l2 := t41 _ _ (by decide) (Or.inl rfl) l2
                    have l3 := t41 _ _ (by decide) (Or.inr (by decide)) l3
                    have l5 := t41 _ _ (by decide) (Or.inl rfl) l5
                    refine rs_goto (tg := 153) wi_428_212 ⟨by decide, by decide⟩ ?_
                    exact h _ l0 l2 l3 l5 l7
                  refine rs_ifge (tg := 191) wi_428_185 ⟨by decide, by decide⟩ (fun q => ?_) (fun q => ?_)
                  ·
                    have h := wp_pos h q
                    refine rs_aldn wi_428_191 l0 ?_
                    refine dq_gr wi_428_192 wf_428_252 tf_174_75 ?_
                    refine rs_pure wi_428_195 rfl ?_
                    refine rs_topi (v := 0) (by decide) ?_
                    refine rs_ild wi_428_196 l8 ?_
                    obtain ⟨g44, h⟩ := wp_gd h
                    obtain ⟨c45, e46, h⟩ := wp_lt h
                    refine dq_iast wi_428_198 t_233 g44 e46 ?_
                    refine rs_aldn wi_428_199 l0 ?_
                    refine rs_pure wi_428_200 rfl ?_
                    refine rs_topi (v := 1) (by decide) ?_
                    obtain ⟨c47, e48, h⟩ := wp_lt h
                    refine dq_pi wi_428_201 wp_428_678 tf_174_74 rfl rfl e48 ?_
                    refine rs_aldn wi_428_204 l0 ?_
                    refine rs_pure wi_428_205 rfl ?_
                    refine rs_topi (v := 1) (by decide) ?_
                    obtain ⟨c49, e50, h⟩ := wp_lt h
                    refine dq_pi wi_428_206 wp_428_684 tf_174_78 (nb_n (by decide)) (nb_f (by decide)) e50 ?_
                    exact hj209 _ h _ l0 l2 l3 l5 l7
                  ·
                    have h := wp_neg h q
                    refine rs_goto (tg := 209) wi_428_188 ⟨by decide, by decide⟩ ?_
                    exact hj209 _ h _ l0 l2 l3 l5 l7
            ·
              intro x51 h lv l0 l2 l3 l5
              refine rs_aldn wi_428_215 l0 ?_
              refine dq_gi wi_428_216 wf_428_678 tf_174_74 ?_
              refine rs_ifgt (tg := 237) wi_428_219 ⟨by decide, by decide⟩ (fun q => ?_) (fun q => ?_)
              ·
                have h := wp_pos h q
                exact h _
              ·
                have h := wp_neg h q
                refine rs_ildn wi_428_222 l2 ?_
                refine rs_pure wi_428_223 rfl ?_
                refine rs_topi (v := 100) (by decide) ?_
                refine wp_jn (B := fun p52 : Unit => ∀ lv, rx_ld lv 0 = some (.ref 174) → rx_ld lv 2 = some (.int a2) → rx_ld lv 3 = some (.long v1) → rx_ld lv 5 = some (.int s12.1) → rs (rt_P sc fm) 428 F Lo 238 lv [] (hq false x51 y w) Q) h (fun p52 h lv l0 l2 l3 l5 => ?_) (fun j238 hj238 h => ?_)
                ·
                  refine rs_aldn wi_428_238 l0 ?_
                  refine rs_ild wi_428_239 l5 ?_
                  refine rs_V wi_428_241 wc_428_694 rfl (dq_isa tf_174_0 wa_15_423) (Nat.le_trans (by decide) hF) (ml_le wm_423 (Nat.le_trans (by decide) hLo)) rfl (sp_423 hw (Nat.le_trans (by decide : 1 ≤ 3 - 1) (Nat.sub_le_sub_right hF 1)) (ml_sub wm_423 (Nat.le_trans (by decide : 25 ≤ 77 - 26) (Nat.sub_le_sub_right hLo 26))) (wp_bind h) (fun v53 h => rs_back1 ?_))
                  refine dl_ist wi_428_244 rfl (fun lv l5 t54 => ?_)
                  have l0 := t54 _ _ (by decide) (Or.inl rfl) l0
                  have l2 := t54 _ _ (by decide) (Or.inl rfl) l2
                  have l3 := t54 _ _ (by decide) (Or.inr (by decide)) l3
                  refine rs_aldn wi_428_246 l0 ?_
                  refine rs_pure wi_428_247 rfl ?_
                  refine dq_gi wi_428_248 wf_428_681 tf_174_77 ?_
                  refine rs_pure wi_428_251 rfl ?_
                  refine rs_topi (v := 1) (by decide) ?_
                  refine rs_pure wi_428_252 rfl ?_
                  obtain ⟨c55, e56, h⟩ := wp_lt h
                  refine dq_pi wi_428_253 wp_428_681 tf_174_77 rfl rfl e56 ?_
                  refine rs_goto (tg := 29) wi_428_256 ⟨by decide, by decide⟩ ?_
                  exact h _ l0 l2 l3 l5
                refine rs_icge (tg := 238) wi_428_225 ⟨by decide, by decide⟩ (fun q => ?_) (fun q => ?_)
                ·
                  have h := wp_pos h q
                  exact hj238 _ h _ l0 l2 l3 l5
                ·
                  have h := wp_neg h q
                  refine rs_aldn wi_428_228 l0 ?_
                  refine dq_gr wi_428_229 wf_428_140 tf_174_32 ?_
                  refine rs_ildn wi_428_232 l2 ?_
                  obtain ⟨g57, h⟩ := wp_gd h
                  refine dq_zald wi_428_233 t_196 g57 ?_
                  refine rs_ifne (tg := 238) wi_428_234 ⟨by decide, by decide⟩ (fun q => ?_) (fun q => ?_)
                  ·
                    have h := wp_neg h q
                    exact hj238 _ h _ l0 l2 l3 l5
                  ·
                    have h := wp_pos h q
                    exact h _
          ·
            have h := wp_neg h q
            exact h _
  ·
    refine sum_all ?_ ?_
    ·
      intro x58 h lv
      have h := wp_inl h
      exact rs_vret wi_428_259 wr_428 (hQ x58 h)
    refine sum_all ?_ ?_
    ·
      intro x59 h lv
      have h := wp_inr h
      have h := wp_inl h
      exact rs_vret wi_428_149 wr_428 (hQ x59 h)
    ·
      intro x60 h lv
      have h := wp_inr h
      have h := wp_inr h
      exact rs_vret wi_428_237 wr_428 (hQ x60 h)
theorem wa_15_113 : rz_cn 15 (rx_yn (rt_P sc fm) 113).cls = true := (by decide +kernel : rz_cn 15 (rt_yn 113).cls = true)
theorem wa_15_428 : rz_cn 15 (rx_yn (rt_P sc fm) 428).cls = true := (by decide +kernel : rz_cn 15 (rt_yn 428).cls = true)
theorem wc_114_652 : rx_ct (rt_P sc fm) 114 652 = some (0, 109, 1) := (by decide +kernel : rt_ct 114 652 = some (0, 109, 1))
theorem wc_114_709 : rx_ct (rt_P sc fm) 114 709 = some (0, 113, 1) := (by decide +kernel : rt_ct 114 709 = some (0, 113, 1))
theorem wc_114_712 : rx_ct (rt_P sc fm) 114 712 = some (0, 428, 2) := (by decide +kernel : rt_ct 114 712 = some (0, 428, 2))
theorem wf_114_678 : rx_ft (rt_P sc fm) 114 678 = some (15, 74) := (by decide +kernel : rt_ft 114 678 = some (15, 74))
theorem wi_114_0 : ri (rt_P sc fm) 114 0 (.aload_n 0) (1) := ri_of (by decide +kernel) rfl
theorem wi_114_1 : ri (rt_P sc fm) 114 1 (.iconst 0) (2) := ri_of (by decide +kernel) rfl
theorem wi_114_10 : ri (rt_P sc fm) 114 10 (.ifCond .eq 11) (13) := ri_of (by decide +kernel) rfl
theorem wi_114_13 : ri (rt_P sc fm) 114 13 (.aload_n 0) (14) := ri_of (by decide +kernel) rfl
theorem wi_114_14 : ri (rt_P sc fm) 114 14 (.iload_n 2) (15) := ri_of (by decide +kernel) rfl
theorem wi_114_15 : ri (rt_P sc fm) 114 15 (.invokevirtual 709) (18) := ri_of (by decide +kernel) rfl
theorem wi_114_18 : ri (rt_P sc fm) 114 18 (.ifCond .ne 5) (21) := ri_of (by decide +kernel) rfl
theorem wi_114_2 : ri (rt_P sc fm) 114 2 (.putfield 356) (5) := ri_of (by decide +kernel) rfl
theorem wi_114_21 : ri (rt_P sc fm) 114 21 (.iconst (-1)) (22) := ri_of (by decide +kernel) rfl
theorem wi_114_22 : ri (rt_P sc fm) 114 22 (.ireturn) (23) := ri_of (by decide +kernel) rfl
theorem wi_114_23 : ri (rt_P sc fm) 114 23 (.aload_n 0) (24) := ri_of (by decide +kernel) rfl
theorem wi_114_24 : ri (rt_P sc fm) 114 24 (.iload_n 1) (25) := ri_of (by decide +kernel) rfl
theorem wi_114_25 : ri (rt_P sc fm) 114 25 (.iload_n 2) (26) := ri_of (by decide +kernel) rfl
theorem wi_114_26 : ri (rt_P sc fm) 114 26 (.invokevirtual 712) (29) := ri_of (by decide +kernel) rfl
theorem wi_114_29 : ri (rt_P sc fm) 114 29 (.aload_n 0) (30) := ri_of (by decide +kernel) rfl
theorem wi_114_30 : ri (rt_P sc fm) 114 30 (.getfield 678) (33) := ri_of (by decide +kernel) rfl
theorem wi_114_33 : ri (rt_P sc fm) 114 33 (.ireturn) (34) := ri_of (by decide +kernel) rfl
theorem wi_114_5 : ri (rt_P sc fm) 114 5 (.aload_n 0) (6) := ri_of (by decide +kernel) rfl
theorem wi_114_6 : ri (rt_P sc fm) 114 6 (.iload_n 1) (7) := ri_of (by decide +kernel) rfl
theorem wi_114_7 : ri (rt_P sc fm) 114 7 (.invokevirtual 652) (10) := ri_of (by decide +kernel) rfl
theorem wm_113 : rx_ml (rt_P sc fm) 113 = 2 := (by decide +kernel : rt_ml 113 = 2)
theorem wm_428 : rx_ml (rt_P sc fm) 428 = 9 := (by decide +kernel : rt_ml 428 = 9)
theorem wp_114_356 : rx_pt (rt_P sc fm) 114 356 = some (15, 0, .int) := (by decide +kernel : rt_pt 114 356 = some (15, 0, .int))
theorem wr_114 : rx_rt (rt_P sc fm) 114 = (some FieldType.int) := (by decide +kernel : rt_rt 114 = (some FieldType.int))
/-- MarkHouseModel.effective(II)I -/
def d_114 (n : Nat) (a1 : Int32) (a2 : Int32) (c : cS) : Option (Int32 × cS) :=
  lt (pI c 174 0 0) (fun c1 =>
  Option.bind (d_109 n a1 c1) (fun v3 =>
  jn (fun p4 : Unit =>
    some ((-1), c1))
  (fun j21 =>
  if v3 = 0 then
    j21 ()
  else
    Option.bind (d_113 n a2 c1) (fun v5 =>
    if v5 = 0 then
      j21 ()
    else
      Option.bind (d_428 n a1 a2 c1) (fun r6 =>
      some ((r6.1 174 74), r6))))))
set_option maxRecDepth 100000 in
set_option maxHeartbeats 4000000 in
theorem sp_114 {F Lo n : Nat} {a1 : Int32} {a2 : Int32} {c y : cS} {w : cW} {K : Int32 × cS → Prop} {Q : ((Option Value) ⊕ String) → List va_E → Prop} (hw : rOK fm w) (hF : 4 ≤ F) (hLo : 105 ≤ Lo)  (h : wp (d_114 n a1 a2 c) K) (hQ : ∀ r, K r → Q (.inl (some (.int r.1))) (hq false r.2 y w)) : rs (rt_P sc fm) 114 F Lo 0 [(0, .ref 174), (1, .int a1), (2, .int a2)] [] (hq false c y w) Q := by
  unfold d_114 at h
  obtain ⟨lv, elv⟩ : ∃ lv : rx_L, lv = [(0, .ref 174), (1, .int a1), (2, .int a2)] := ⟨_, rfl⟩
  rw [← elv]
  have l0 : rx_ld lv 0 = some (.ref 174) := by rw [elv]; rfl
  have l1 : rx_ld lv 1 = some (.int a1) := by rw [elv]; rfl
  have l2 : rx_ld lv 2 = some (.int a2) := by rw [elv]; rfl
  refine rs_aldn wi_114_0 l0 ?_
  refine rs_pure wi_114_1 rfl ?_
  refine rs_topi (v := 0) (by decide) ?_
  obtain ⟨c1, e2, h⟩ := wp_lt h
  refine dq_pi wi_114_2 wp_114_356 tf_174_0 rfl rfl e2 ?_
  refine rs_aldn wi_114_5 l0 ?_
  refine rs_ildn wi_114_6 l1 ?_
  refine rs_V wi_114_7 wc_114_652 rfl (dq_isa tf_174_0 wa_15_109) (Nat.le_trans (by decide) hF) (ml_le wm_109 (Nat.le_trans (by decide) hLo)) rfl (sp_109 hw (Nat.le_trans (by decide : 0 ≤ 4 - 1) (Nat.sub_le_sub_right hF 1)) (ml_sub wm_109 (Nat.le_trans (by decide : 0 ≤ 105 - 24) (Nat.sub_le_sub_right hLo 24))) (wp_bind h) (fun v3 h => rs_back1 ?_))
  refine wp_jn (B := fun p4 : Unit => ∀ lv, rs (rt_P sc fm) 114 F Lo 21 lv [] (hq false c1 y w) Q) h (fun p4 h lv => ?_) (fun j21 hj21 h => ?_)
  ·
    refine rs_pure wi_114_21 rfl ?_
    refine rs_topi (v := (-1)) (by decide) ?_
    exact rs_iret wi_114_22 wr_114 rfl (hQ ((-1), c1) h)
  refine rs_ifeq (tg := 21) wi_114_10 ⟨by decide, by decide⟩ (fun q => ?_) (fun q => ?_)
  ·
    have h := wp_pos h q
    exact hj21 _ h _
  ·
    have h := wp_neg h q
    refine rs_aldn wi_114_13 l0 ?_
    refine rs_ildn wi_114_14 l2 ?_
    refine rs_V wi_114_15 wc_114_709 rfl (dq_isa tf_174_0 wa_15_113) (Nat.le_trans (by decide) hF) (ml_le wm_113 (Nat.le_trans (by decide) hLo)) rfl (sp_113 hw (Nat.le_trans (by decide : 0 ≤ 4 - 1) (Nat.sub_le_sub_right hF 1)) (ml_sub wm_113 (Nat.le_trans (by decide : 0 ≤ 105 - 21) (Nat.sub_le_sub_right hLo 21))) (wp_bind h) (fun v5 h => rs_back1 ?_))
    refine rs_ifne (tg := 23) wi_114_18 ⟨by decide, by decide⟩ (fun q => ?_) (fun q => ?_)
    ·
      have h := wp_neg h q
      refine rs_aldn wi_114_23 l0 ?_
      refine rs_ildn wi_114_24 l1 ?_
      refine rs_ildn wi_114_25 l2 ?_
      refine rs_V wi_114_26 wc_114_712 rfl (dq_isa tf_174_0 wa_15_428) (Nat.le_trans (by decide) hF) (ml_le wm_428 (Nat.le_trans (by decide) hLo)) rfl (sp_428 hw (Nat.le_trans (by decide : 3 ≤ 4 - 1) (Nat.sub_le_sub_right hF 1)) (ml_sub wm_428 (Nat.le_trans (by decide : 77 ≤ 105 - 28) (Nat.sub_le_sub_right hLo 28))) (wp_bind h) (fun r6 h => rs_back0 ?_))
      refine rs_aldn wi_114_29 l0 ?_
      refine dq_gi wi_114_30 wf_114_678 tf_174_74 ?_
      exact rs_iret wi_114_33 wr_114 rfl (hQ ((r6.1 174 74), r6) h)
    ·
      have h := wp_pos h q
      exact hj21 _ h _
theorem wc_430_513 : rx_ct (rt_P sc fm) 430 513 = some (0, 377, 2) := (by decide +kernel : rt_ct 430 513 = some (0, 377, 2))
theorem wf_430_227 : rx_ft (rt_P sc fm) 430 227 = some (15, 63) := (by decide +kernel : rt_ft 430 227 = some (15, 63))
theorem wf_430_231 : rx_ft (rt_P sc fm) 430 231 = some (15, 64) := (by decide +kernel : rt_ft 430 231 = some (15, 64))
theorem wf_430_234 : rx_ft (rt_P sc fm) 430 234 = some (15, 65) := (by decide +kernel : rt_ft 430 234 = some (15, 65))
theorem wf_430_237 : rx_ft (rt_P sc fm) 430 237 = some (15, 66) := (by decide +kernel : rt_ft 430 237 = some (15, 66))
theorem wi_430_0 : ri (rt_P sc fm) 430 0 (.iconst 0) (1) := ri_of (by decide +kernel) rfl
theorem wi_430_1 : ri (rt_P sc fm) 430 1 (.istore_n 3) (2) := ri_of (by decide +kernel) rfl
theorem wi_430_12 : ri (rt_P sc fm) 430 12 (.iload_n 1) (13) := ri_of (by decide +kernel) rfl
theorem wi_430_13 : ri (rt_P sc fm) 430 13 (.iconst 4) (14) := ri_of (by decide +kernel) rfl
theorem wi_430_14 : ri (rt_P sc fm) 430 14 (.imul) (15) := ri_of (by decide +kernel) rfl
theorem wi_430_15 : ri (rt_P sc fm) 430 15 (.iload_n 3) (16) := ri_of (by decide +kernel) rfl
theorem wi_430_16 : ri (rt_P sc fm) 430 16 (.iadd) (17) := ri_of (by decide +kernel) rfl
theorem wi_430_17 : ri (rt_P sc fm) 430 17 (.istore 4) (19) := ri_of (by decide +kernel) rfl
theorem wi_430_19 : ri (rt_P sc fm) 430 19 (.aload_n 0) (20) := ri_of (by decide +kernel) rfl
theorem wi_430_2 : ri (rt_P sc fm) 430 2 (.iload_n 3) (3) := ri_of (by decide +kernel) rfl
theorem wi_430_20 : ri (rt_P sc fm) 430 20 (.getfield 231) (23) := ri_of (by decide +kernel) rfl
theorem wi_430_23 : ri (rt_P sc fm) 430 23 (.iload 4) (25) := ri_of (by decide +kernel) rfl
theorem wi_430_25 : ri (rt_P sc fm) 430 25 (.laload) (26) := ri_of (by decide +kernel) rfl
theorem wi_430_26 : ri (rt_P sc fm) 430 26 (.ldc2_w 559) (29) := ri_of (by decide +kernel) rfl
theorem wi_430_29 : ri (rt_P sc fm) 430 29 (.lcmp) (30) := ri_of (by decide +kernel) rfl
theorem wi_430_3 : ri (rt_P sc fm) 430 3 (.aload_n 0) (4) := ri_of (by decide +kernel) rfl
theorem wi_430_30 : ri (rt_P sc fm) 430 30 (.ifCond .eq 6) (33) := ri_of (by decide +kernel) rfl
theorem wi_430_33 : ri (rt_P sc fm) 430 33 (.goto 45) (36) := ri_of (by decide +kernel) rfl
theorem wi_430_36 : ri (rt_P sc fm) 430 36 (.aload_n 0) (37) := ri_of (by decide +kernel) rfl
theorem wi_430_37 : ri (rt_P sc fm) 430 37 (.getfield 234) (40) := ri_of (by decide +kernel) rfl
theorem wi_430_4 : ri (rt_P sc fm) 430 4 (.getfield 227) (7) := ri_of (by decide +kernel) rfl
theorem wi_430_40 : ri (rt_P sc fm) 430 40 (.iload 4) (42) := ri_of (by decide +kernel) rfl
theorem wi_430_42 : ri (rt_P sc fm) 430 42 (.iaload) (43) := ri_of (by decide +kernel) rfl
theorem wi_430_43 : ri (rt_P sc fm) 430 43 (.iconst 3) (44) := ri_of (by decide +kernel) rfl
theorem wi_430_44 : ri (rt_P sc fm) 430 44 (.if_icmp .ne 18) (47) := ri_of (by decide +kernel) rfl
theorem wi_430_47 : ri (rt_P sc fm) 430 47 (.aload_n 0) (48) := ri_of (by decide +kernel) rfl
theorem wi_430_48 : ri (rt_P sc fm) 430 48 (.iload_n 2) (49) := ri_of (by decide +kernel) rfl
theorem wi_430_49 : ri (rt_P sc fm) 430 49 (.aload_n 0) (50) := ri_of (by decide +kernel) rfl
theorem wi_430_50 : ri (rt_P sc fm) 430 50 (.getfield 237) (53) := ri_of (by decide +kernel) rfl
theorem wi_430_53 : ri (rt_P sc fm) 430 53 (.iload 4) (55) := ri_of (by decide +kernel) rfl
theorem wi_430_55 : ri (rt_P sc fm) 430 55 (.laload) (56) := ri_of (by decide +kernel) rfl
theorem wi_430_56 : ri (rt_P sc fm) 430 56 (.invokevirtual 513) (59) := ri_of (by decide +kernel) rfl
theorem wi_430_59 : ri (rt_P sc fm) 430 59 (.goto 4) (62) := ri_of (by decide +kernel) rfl
theorem wi_430_62 : ri (rt_P sc fm) 430 62 (.iconst (-1)) (63) := ri_of (by decide +kernel) rfl
theorem wi_430_63 : ri (rt_P sc fm) 430 63 (.istore 5) (65) := ri_of (by decide +kernel) rfl
theorem wi_430_65 : ri (rt_P sc fm) 430 65 (.iload 5) (67) := ri_of (by decide +kernel) rfl
theorem wi_430_67 : ri (rt_P sc fm) 430 67 (.ifCond .ge 8) (70) := ri_of (by decide +kernel) rfl
theorem wi_430_7 : ri (rt_P sc fm) 430 7 (.iload_n 1) (8) := ri_of (by decide +kernel) rfl
theorem wi_430_70 : ri (rt_P sc fm) 430 70 (.bipush (-2)) (72) := ri_of (by decide +kernel) rfl
theorem wi_430_72 : ri (rt_P sc fm) 430 72 (.goto 5) (75) := ri_of (by decide +kernel) rfl
theorem wi_430_75 : ri (rt_P sc fm) 430 75 (.iload 5) (77) := ri_of (by decide +kernel) rfl
theorem wi_430_77 : ri (rt_P sc fm) 430 77 (.ireturn) (78) := ri_of (by decide +kernel) rfl
theorem wi_430_78 : ri (rt_P sc fm) 430 78 (.iinc 3 1) (81) := ri_of (by decide +kernel) rfl
theorem wi_430_8 : ri (rt_P sc fm) 430 8 (.iaload) (9) := ri_of (by decide +kernel) rfl
theorem wi_430_81 : ri (rt_P sc fm) 430 81 (.goto (-79)) (84) := ri_of (by decide +kernel) rfl
theorem wi_430_84 : ri (rt_P sc fm) 430 84 (.bipush (-2)) (86) := ri_of (by decide +kernel) rfl
theorem wi_430_86 : ri (rt_P sc fm) 430 86 (.ireturn) (87) := ri_of (by decide +kernel) rfl
theorem wi_430_9 : ri (rt_P sc fm) 430 9 (.if_icmp .ge 75) (12) := ri_of (by decide +kernel) rfl
theorem wk_430_559 : rx_kt (rt_P sc fm) 430 559 = some (.long (24948)) := (by decide +kernel : rt_kt 430 559 = some (.long (24948)))
theorem wr_430 : rx_rt (rt_P sc fm) 430 = (some FieldType.int) := (by decide +kernel : rt_rt 430 = (some FieldType.int))
/-- MarkHouseModel.elementIn(II)I -/
def d_430 (n : Nat) (a1 : Int32) (a2 : Int32) (c : cS) : Option (Int32) :=
  Option.bind (whl (R := (Unit) ⊕ (Int32)) (fun s2 : Int32 =>
    if ib a1 24380 then
    if (c.1 225 (ix a1)) ≤ s2 then
      some (.inr (.inl ()))
    else
      lt (((a1 * 4) + s2) : Int32) (fun v5 =>
      if ib v5 97520 then
      if (lg_cmp (c.2 226 (ix v5)) 24948) = 0 then
        some (.inr (.inr v5))
      else
        lt (s2 + 1 : Int32) (fun v9 =>
        some (.inl v9))
      else none)
    else none) n 0)
  (Sum.elim (fun x11 : Unit =>
    some (-2))
  (fun x12 : Int32 =>
    if ib x12 97520 then
    jn (fun p14 : Int32 =>
      jn (fun p16 : Int32 =>
        some p16)
      (fun j77 =>
      if 0 ≤ p14 then
        j77 p14
      else
        j77 (-2)))
    (fun j63 =>
    if (c.1 227 (ix x12)) = 3 then
      if ib x12 97520 then
      Option.bind (d_377 n a2 (c.2 228 (ix x12)) c) (fun v18 =>
      j63 v18)
      else none
    else
      j63 (-1))
    else none))
set_option maxRecDepth 100000 in
set_option maxHeartbeats 4000000 in
theorem sp_430 {F Lo n : Nat} {a1 : Int32} {a2 : Int32} {c y : cS} {w : cW} {K : Int32 → Prop} {Q : ((Option Value) ⊕ String) → List va_E → Prop} (hw : rOK fm w) (hF : 1 ≤ F) (hLo : 24 ≤ Lo)  (h : wp (d_430 n a1 a2 c) K) (hQ : ∀ r, K r → Q (.inl (some (.int r))) (hq false c y w)) : rs (rt_P sc fm) 430 F Lo 0 [(0, .ref 174), (1, .int a1), (2, .int a2)] [] (hq false c y w) Q := by
  unfold d_430 at h
  obtain ⟨lv, elv⟩ : ∃ lv : rx_L, lv = [(0, .ref 174), (1, .int a1), (2, .int a2)] := ⟨_, rfl⟩
  rw [← elv]
  have l0 : rx_ld lv 0 = some (.ref 174) := by rw [elv]; rfl
  have l1 : rx_ld lv 1 = some (.int a1) := by rw [elv]; rfl
  have l2 : rx_ld lv 2 = some (.int a2) := by rw [elv]; rfl
  refine rs_pure wi_430_0 rfl ?_
  refine rs_topi (v := 0) (by decide) ?_
  refine dl_istn wi_430_1 rfl (fun lv l3 t1 => ?_)
  have l0 := t1 _ _ (by decide) (Or.inl rfl) l0
  have l1 := t1 _ _ (by decide) (Or.inl rfl) l1
  have l2 := t1 _ _ (by decide) (Or.inl rfl) l2
  refine whl_ex (A := fun s2 : Int32 => ∀ lv, rx_ld lv 0 = some (.ref 174) → rx_ld lv 1 = some (.int a1) → rx_ld lv 2 = some (.int a2) → rx_ld lv 3 = some (.int s2) → rs (rt_P sc fm) 430 F Lo 2 lv [] (hq false c y w) Q) (B := (Sum.elim (fun x11 : Unit => ∀ lv, rs (rt_P sc fm) 430 F Lo 84 lv [] (hq false c y w) Q) (fun x12 : Int32 => ∀ lv, rx_ld lv 0 = some (.ref 174) → rx_ld lv 2 = some (.int a2) → rx_ld lv 4 = some (.int x12) → rs (rt_P sc fm) 430 F Lo 36 lv [] (hq false c y w) Q))) ?_ ?_ _ _ (wp_bind h) _ l0 l1 l2 l3
  · intro s2 h lv l0 l1 l2 l3
    refine rs_ildn wi_430_2 l3 ?_
    refine rs_aldn wi_430_3 l0 ?_
    refine dq_gr wi_430_4 wf_430_227 tf_174_63 ?_
    refine rs_ildn wi_430_7 l1 ?_
    obtain ⟨g3, h⟩ := wp_gd h
    refine dq_iald wi_430_8 t_225 g3 ?_
    refine rs_icge (tg := 84) wi_430_9 ⟨by decide, by decide⟩ (fun q => ?_) (fun q => ?_)
    ·
      have h := wp_pos h q
      exact h _
    ·
      have h := wp_neg h q
      refine rs_ildn wi_430_12 l1 ?_
      refine rs_pure wi_430_13 rfl ?_
      refine rs_topi (v := 4) (by decide) ?_
      refine rs_pure wi_430_14 rfl ?_
      refine rs_ildn wi_430_15 l3 ?_
      refine rs_pure wi_430_16 rfl ?_
      obtain ⟨v5, e6, h⟩ := wp_lt h
      refine rs_topi e6 ?_
      refine dl_ist wi_430_17 rfl (fun lv l4 t4 => ?_)
      have l0 := t4 _ _ (by decide) (Or.inl rfl) l0
      have l1 := t4 _ _ (by decide) (Or.inl rfl) l1
      have l2 := t4 _ _ (by decide) (Or.inl rfl) l2
      have l3 := t4 _ _ (by decide) (Or.inl rfl) l3
      refine rs_aldn wi_430_19 l0 ?_
      refine dq_gr wi_430_20 wf_430_231 tf_174_64 ?_
      refine rs_ild wi_430_23 l4 ?_
      obtain ⟨g7, h⟩ := wp_gd h
      refine dq_lald wi_430_25 t_226 g7 ?_
      refine rs_ldcl wi_430_26 wk_430_559 ?_
      refine rs_pure wi_430_29 rfl ?_
      refine rs_ifeq (tg := 36) wi_430_30 ⟨by decide, by decide⟩ (fun q => ?_) (fun q => ?_)
      ·
        have h := wp_pos h q
        exact h _ l0 l2 l4
      ·
        have h := wp_neg h q
        refine rs_goto (tg := 78) wi_430_33 ⟨by decide, by decide⟩ ?_
        obtain ⟨v9, e10, h⟩ := wp_lt h
        refine dl_inc wi_430_78 l3 rfl e10 (fun lv l3 t8 => ?_)
        have l0 := t8 _ _ (by decide) (Or.inl rfl) l0
        have l1 := t8 _ _ (by decide) (Or.inl rfl) l1
        have l2 := t8 _ _ (by decide) (Or.inl rfl) l2
        refine rs_goto (tg := 2) wi_430_81 ⟨by decide, by decide⟩ ?_
        exact h _ l0 l1 l2 l3
  ·
    refine sum_all ?_ ?_
    ·
      intro x11 h lv
      have h := wp_inl h
      refine rs_pure wi_430_84 rfl ?_
      refine rs_topi (v := (-2)) (by decide) ?_
      exact rs_iret wi_430_86 wr_430 rfl (hQ (-2) h)
    ·
      intro x12 h lv l0 l2 l4
      have h := wp_inr h
      refine rs_aldn wi_430_36 l0 ?_
      refine dq_gr wi_430_37 wf_430_234 tf_174_65 ?_
      refine rs_ild wi_430_40 l4 ?_
      obtain ⟨g13, h⟩ := wp_gd h
      refine dq_iald wi_430_42 t_227 g13 ?_
      refine rs_pure wi_430_43 rfl ?_
      refine rs_topi (v := 3) (by decide) ?_
      refine wp_jn (B := fun p14 : Int32 => ∀ lv, rs (rt_P sc fm) 430 F Lo 63 lv [.int p14] (hq false c y w) Q) h (fun p14 h lv => ?_) (fun j63 hj63 h => ?_)
      ·
        refine dl_ist wi_430_63 rfl (fun lv l5 t15 => ?_)
        refine rs_ild wi_430_65 l5 ?_
        refine wp_jn (B := fun p16 : Int32 => ∀ lv, rs (rt_P sc fm) 430 F Lo 77 lv [.int p16] (hq false c y w) Q) h (fun p16 h lv => ?_) (fun j77 hj77 h => ?_)
        ·
          exact rs_iret wi_430_77 wr_430 rfl (hQ p16 h)
        refine rs_ifge (tg := 75) wi_430_67 ⟨by decide, by decide⟩ (fun q => ?_) (fun q => ?_)
        ·
          have h := wp_pos h q
          refine rs_ild wi_430_75 l5 ?_
          exact hj77 _ h _
        ·
          have h := wp_neg h q
          refine rs_pure wi_430_70 rfl ?_
          refine rs_topi (v := (-2)) (by decide) ?_
          refine rs_goto (tg := 77) wi_430_72 ⟨by decide, by decide⟩ ?_
          exact hj77 _ h _
      refine rs_icne (tg := 62) wi_430_44 ⟨by decide, by decide⟩ (fun q => ?_) (fun q => ?_)
      ·
        have h := wp_neg h q
        refine rs_pure wi_430_62 rfl ?_
        refine rs_topi (v := (-1)) (by decide) ?_
        exact hj63 _ h _
      ·
        have h := wp_pos h q
        refine rs_aldn wi_430_47 l0 ?_
        refine rs_ildn wi_430_48 l2 ?_
        refine rs_aldn wi_430_49 l0 ?_
        refine dq_gr wi_430_50 wf_430_237 tf_174_66 ?_
        refine rs_ild wi_430_53 l4 ?_
        obtain ⟨g17, h⟩ := wp_gd h
        refine dq_lald wi_430_55 t_228 g17 ?_
        refine rs_V wi_430_56 wc_430_513 rfl (dq_isa tf_174_0 wa_15_377) (Nat.le_trans (by decide) hF) (ml_le wm_377 (Nat.le_trans (by decide) hLo)) rfl (sp_377 hw (Nat.le_trans (by decide : 0 ≤ 1 - 1) (Nat.sub_le_sub_right hF 1)) (ml_sub wm_377 (Nat.le_trans (by decide : 0 ≤ 24 - 24) (Nat.sub_le_sub_right hLo 24))) (wp_bind h) (fun v18 h => rs_back1 ?_))
        refine rs_goto (tg := 63) wi_430_59 ⟨by decide, by decide⟩ ?_
        exact hj63 _ h _
theorem wa_15_430 : rz_cn 15 (rx_yn (rt_P sc fm) 430).cls = true := (by decide +kernel : rz_cn 15 (rt_yn 430).cls = true)
theorem wc_431_700 : rx_ct (rt_P sc fm) 431 700 = some (0, 430, 2) := (by decide +kernel : rt_ct 431 700 = some (0, 430, 2))
theorem wf_431_113 : rx_ft (rt_P sc fm) 431 113 = some (15, 22) := (by decide +kernel : rt_ft 431 113 = some (15, 22))
theorem wi_431_0 : ri (rt_P sc fm) 431 0 (.aload_n 0) (1) := ri_of (by decide +kernel) rfl
theorem wi_431_1 : ri (rt_P sc fm) 431 1 (.iload_n 1) (2) := ri_of (by decide +kernel) rfl
theorem wi_431_11 : ri (rt_P sc fm) 431 11 (.aload_n 0) (12) := ri_of (by decide +kernel) rfl
theorem wi_431_12 : ri (rt_P sc fm) 431 12 (.getfield 113) (15) := ri_of (by decide +kernel) rfl
theorem wi_431_15 : ri (rt_P sc fm) 431 15 (.iload_n 2) (16) := ri_of (by decide +kernel) rfl
theorem wi_431_16 : ri (rt_P sc fm) 431 16 (.iaload) (17) := ri_of (by decide +kernel) rfl
theorem wi_431_17 : ri (rt_P sc fm) 431 17 (.goto 4) (20) := ri_of (by decide +kernel) rfl
theorem wi_431_2 : ri (rt_P sc fm) 431 2 (.iload_n 2) (3) := ri_of (by decide +kernel) rfl
theorem wi_431_20 : ri (rt_P sc fm) 431 20 (.iload_n 3) (21) := ri_of (by decide +kernel) rfl
theorem wi_431_21 : ri (rt_P sc fm) 431 21 (.ireturn) (22) := ri_of (by decide +kernel) rfl
theorem wi_431_3 : ri (rt_P sc fm) 431 3 (.invokevirtual 700) (6) := ri_of (by decide +kernel) rfl
theorem wi_431_6 : ri (rt_P sc fm) 431 6 (.istore_n 3) (7) := ri_of (by decide +kernel) rfl
theorem wi_431_7 : ri (rt_P sc fm) 431 7 (.iload_n 3) (8) := ri_of (by decide +kernel) rfl
theorem wi_431_8 : ri (rt_P sc fm) 431 8 (.ifCond .ge 12) (11) := ri_of (by decide +kernel) rfl
theorem wm_430 : rx_ml (rt_P sc fm) 430 = 6 := (by decide +kernel : rt_ml 430 = 6)
theorem wr_431 : rx_rt (rt_P sc fm) 431 = (some FieldType.int) := (by decide +kernel : rt_rt 431 = (some FieldType.int))
/-- MarkHouseModel.elementThatCounts(II)I -/
def d_431 (n : Nat) (a1 : Int32) (a2 : Int32) (c : cS) : Option (Int32) :=
  Option.bind (d_430 n a1 a2 c) (fun v1 =>
  jn (fun p3 : Int32 =>
    some p3)
  (fun j21 =>
  if 0 ≤ v1 then
    j21 v1
  else
    if ib a2 4 then
    j21 (c.1 187 (ix a2))
    else none))
set_option maxRecDepth 100000 in
set_option maxHeartbeats 4000000 in
theorem sp_431 {F Lo n : Nat} {a1 : Int32} {a2 : Int32} {c y : cS} {w : cW} {K : Int32 → Prop} {Q : ((Option Value) ⊕ String) → List va_E → Prop} (hw : rOK fm w) (hF : 2 ≤ F) (hLo : 49 ≤ Lo)  (h : wp (d_431 n a1 a2 c) K) (hQ : ∀ r, K r → Q (.inl (some (.int r))) (hq false c y w)) : rs (rt_P sc fm) 431 F Lo 0 [(0, .ref 174), (1, .int a1), (2, .int a2)] [] (hq false c y w) Q := by
  unfold d_431 at h
  obtain ⟨lv, elv⟩ : ∃ lv : rx_L, lv = [(0, .ref 174), (1, .int a1), (2, .int a2)] := ⟨_, rfl⟩
  rw [← elv]
  have l0 : rx_ld lv 0 = some (.ref 174) := by rw [elv]; rfl
  have l1 : rx_ld lv 1 = some (.int a1) := by rw [elv]; rfl
  have l2 : rx_ld lv 2 = some (.int a2) := by rw [elv]; rfl
  refine rs_aldn wi_431_0 l0 ?_
  refine rs_ildn wi_431_1 l1 ?_
  refine rs_ildn wi_431_2 l2 ?_
  refine rs_V wi_431_3 wc_431_700 rfl (dq_isa tf_174_0 wa_15_430) (Nat.le_trans (by decide) hF) (ml_le wm_430 (Nat.le_trans (by decide) hLo)) rfl (sp_430 hw (Nat.le_trans (by decide : 1 ≤ 2 - 1) (Nat.sub_le_sub_right hF 1)) (ml_sub wm_430 (Nat.le_trans (by decide : 24 ≤ 49 - 25) (Nat.sub_le_sub_right hLo 25))) (wp_bind h) (fun v1 h => rs_back1 ?_))
  refine dl_istn wi_431_6 rfl (fun lv l3 t2 => ?_)
  have l0 := t2 _ _ (by decide) (Or.inl rfl) l0
  have l2 := t2 _ _ (by decide) (Or.inl rfl) l2
  refine rs_ildn wi_431_7 l3 ?_
  refine wp_jn (B := fun p3 : Int32 => ∀ lv, rs (rt_P sc fm) 431 F Lo 21 lv [.int p3] (hq false c y w) Q) h (fun p3 h lv => ?_) (fun j21 hj21 h => ?_)
  ·
    exact rs_iret wi_431_21 wr_431 rfl (hQ p3 h)
  refine rs_ifge (tg := 20) wi_431_8 ⟨by decide, by decide⟩ (fun q => ?_) (fun q => ?_)
  ·
    have h := wp_pos h q
    refine rs_ildn wi_431_20 l3 ?_
    exact hj21 _ h _
  ·
    have h := wp_neg h q
    refine rs_aldn wi_431_11 l0 ?_
    refine dq_gr wi_431_12 wf_431_113 tf_174_22 ?_
    refine rs_ildn wi_431_15 l2 ?_
    obtain ⟨g4, h⟩ := wp_gd h
    refine dq_iald wi_431_16 t_187 g4 ?_
    refine rs_goto (tg := 21) wi_431_17 ⟨by decide, by decide⟩ ?_
    exact hj21 _ h _
theorem tf_174_79 : fo false 174 15 79 (.long 0) := ⟨_, rfl, rfl, by decide, by decide⟩
theorem wf_429_125 : rx_ft (rt_P sc fm) 429 125 = some (15, 27) := (by decide +kernel : rt_ft 429 125 = some (15, 27))
theorem wf_429_128 : rx_ft (rt_P sc fm) 429 128 = some (15, 28) := (by decide +kernel : rt_ft 429 128 = some (15, 28))
theorem wf_429_131 : rx_ft (rt_P sc fm) 429 131 = some (15, 29) := (by decide +kernel : rt_ft 429 131 = some (15, 29))
theorem wf_429_134 : rx_ft (rt_P sc fm) 429 134 = some (15, 30) := (by decide +kernel : rt_ft 429 134 = some (15, 30))
theorem wf_429_227 : rx_ft (rt_P sc fm) 429 227 = some (15, 63) := (by decide +kernel : rt_ft 429 227 = some (15, 63))
theorem wf_429_231 : rx_ft (rt_P sc fm) 429 231 = some (15, 64) := (by decide +kernel : rt_ft 429 231 = some (15, 64))
theorem wf_429_234 : rx_ft (rt_P sc fm) 429 234 = some (15, 65) := (by decide +kernel : rt_ft 429 234 = some (15, 65))
theorem wf_429_237 : rx_ft (rt_P sc fm) 429 237 = some (15, 66) := (by decide +kernel : rt_ft 429 237 = some (15, 66))
theorem wi_429_0 : ri (rt_P sc fm) 429 0 (.iconst 4) (1) := ri_of (by decide +kernel) rfl
theorem wi_429_1 : ri (rt_P sc fm) 429 1 (.iload_n 2) (2) := ri_of (by decide +kernel) rfl
theorem wi_429_10 : ri (rt_P sc fm) 429 10 (.iload 5) (12) := ri_of (by decide +kernel) rfl
theorem wi_429_102 : ri (rt_P sc fm) 429 102 (.goto (-92)) (105) := ri_of (by decide +kernel) rfl
theorem wi_429_105 : ri (rt_P sc fm) 429 105 (.aload_n 0) (106) := ri_of (by decide +kernel) rfl
theorem wi_429_106 : ri (rt_P sc fm) 429 106 (.aload_n 0) (107) := ri_of (by decide +kernel) rfl
theorem wi_429_107 : ri (rt_P sc fm) 429 107 (.getfield 134) (110) := ri_of (by decide +kernel) rfl
theorem wi_429_110 : ri (rt_P sc fm) 429 110 (.iload 4) (112) := ri_of (by decide +kernel) rfl
theorem wi_429_112 : ri (rt_P sc fm) 429 112 (.laload) (113) := ri_of (by decide +kernel) rfl
theorem wi_429_113 : ri (rt_P sc fm) 429 113 (.putfield 697) (116) := ri_of (by decide +kernel) rfl
theorem wi_429_116 : ri (rt_P sc fm) 429 116 (.aload_n 0) (117) := ri_of (by decide +kernel) rfl
theorem wi_429_117 : ri (rt_P sc fm) 429 117 (.getfield 131) (120) := ri_of (by decide +kernel) rfl
theorem wi_429_12 : ri (rt_P sc fm) 429 12 (.aload_n 0) (13) := ri_of (by decide +kernel) rfl
theorem wi_429_120 : ri (rt_P sc fm) 429 120 (.iload 4) (122) := ri_of (by decide +kernel) rfl
theorem wi_429_122 : ri (rt_P sc fm) 429 122 (.baload) (123) := ri_of (by decide +kernel) rfl
theorem wi_429_123 : ri (rt_P sc fm) 429 123 (.ifCond .ne 8) (126) := ri_of (by decide +kernel) rfl
theorem wi_429_126 : ri (rt_P sc fm) 429 126 (.bipush (-3)) (128) := ri_of (by decide +kernel) rfl
theorem wi_429_128 : ri (rt_P sc fm) 429 128 (.goto 18) (131) := ri_of (by decide +kernel) rfl
theorem wi_429_13 : ri (rt_P sc fm) 429 13 (.getfield 227) (16) := ri_of (by decide +kernel) rfl
theorem wi_429_131 : ri (rt_P sc fm) 429 131 (.aload_n 0) (132) := ri_of (by decide +kernel) rfl
theorem wi_429_132 : ri (rt_P sc fm) 429 132 (.getfield 128) (135) := ri_of (by decide +kernel) rfl
theorem wi_429_135 : ri (rt_P sc fm) 429 135 (.iload 4) (137) := ri_of (by decide +kernel) rfl
theorem wi_429_137 : ri (rt_P sc fm) 429 137 (.baload) (138) := ri_of (by decide +kernel) rfl
theorem wi_429_138 : ri (rt_P sc fm) 429 138 (.ifCond .eq 7) (141) := ri_of (by decide +kernel) rfl
theorem wi_429_141 : ri (rt_P sc fm) 429 141 (.iconst 2) (142) := ri_of (by decide +kernel) rfl
theorem wi_429_142 : ri (rt_P sc fm) 429 142 (.goto 4) (145) := ri_of (by decide +kernel) rfl
theorem wi_429_145 : ri (rt_P sc fm) 429 145 (.iconst 1) (146) := ri_of (by decide +kernel) rfl
theorem wi_429_146 : ri (rt_P sc fm) 429 146 (.ireturn) (147) := ri_of (by decide +kernel) rfl
theorem wi_429_16 : ri (rt_P sc fm) 429 16 (.iload_n 1) (17) := ri_of (by decide +kernel) rfl
theorem wi_429_17 : ri (rt_P sc fm) 429 17 (.iaload) (18) := ri_of (by decide +kernel) rfl
theorem wi_429_18 : ri (rt_P sc fm) 429 18 (.if_icmp .ge 87) (21) := ri_of (by decide +kernel) rfl
theorem wi_429_2 : ri (rt_P sc fm) 429 2 (.imul) (3) := ri_of (by decide +kernel) rfl
theorem wi_429_21 : ri (rt_P sc fm) 429 21 (.iload_n 1) (22) := ri_of (by decide +kernel) rfl
theorem wi_429_22 : ri (rt_P sc fm) 429 22 (.iconst 4) (23) := ri_of (by decide +kernel) rfl
theorem wi_429_23 : ri (rt_P sc fm) 429 23 (.imul) (24) := ri_of (by decide +kernel) rfl
theorem wi_429_24 : ri (rt_P sc fm) 429 24 (.iload 5) (26) := ri_of (by decide +kernel) rfl
theorem wi_429_26 : ri (rt_P sc fm) 429 26 (.iadd) (27) := ri_of (by decide +kernel) rfl
theorem wi_429_27 : ri (rt_P sc fm) 429 27 (.istore 6) (29) := ri_of (by decide +kernel) rfl
theorem wi_429_29 : ri (rt_P sc fm) 429 29 (.aload_n 0) (30) := ri_of (by decide +kernel) rfl
theorem wi_429_3 : ri (rt_P sc fm) 429 3 (.iload_n 3) (4) := ri_of (by decide +kernel) rfl
theorem wi_429_30 : ri (rt_P sc fm) 429 30 (.getfield 231) (33) := ri_of (by decide +kernel) rfl
theorem wi_429_33 : ri (rt_P sc fm) 429 33 (.iload 6) (35) := ri_of (by decide +kernel) rfl
theorem wi_429_35 : ri (rt_P sc fm) 429 35 (.laload) (36) := ri_of (by decide +kernel) rfl
theorem wi_429_36 : ri (rt_P sc fm) 429 36 (.aload_n 0) (37) := ri_of (by decide +kernel) rfl
theorem wi_429_37 : ri (rt_P sc fm) 429 37 (.getfield 125) (40) := ri_of (by decide +kernel) rfl
theorem wi_429_4 : ri (rt_P sc fm) 429 4 (.iadd) (5) := ri_of (by decide +kernel) rfl
theorem wi_429_40 : ri (rt_P sc fm) 429 40 (.iload 4) (42) := ri_of (by decide +kernel) rfl
theorem wi_429_42 : ri (rt_P sc fm) 429 42 (.laload) (43) := ri_of (by decide +kernel) rfl
theorem wi_429_43 : ri (rt_P sc fm) 429 43 (.lcmp) (44) := ri_of (by decide +kernel) rfl
theorem wi_429_44 : ri (rt_P sc fm) 429 44 (.ifCond .eq 6) (47) := ri_of (by decide +kernel) rfl
theorem wi_429_47 : ri (rt_P sc fm) 429 47 (.goto 52) (50) := ri_of (by decide +kernel) rfl
theorem wi_429_5 : ri (rt_P sc fm) 429 5 (.istore 4) (7) := ri_of (by decide +kernel) rfl
theorem wi_429_50 : ri (rt_P sc fm) 429 50 (.aload_n 0) (51) := ri_of (by decide +kernel) rfl
theorem wi_429_51 : ri (rt_P sc fm) 429 51 (.aload_n 0) (52) := ri_of (by decide +kernel) rfl
theorem wi_429_52 : ri (rt_P sc fm) 429 52 (.getfield 237) (55) := ri_of (by decide +kernel) rfl
theorem wi_429_55 : ri (rt_P sc fm) 429 55 (.iload 6) (57) := ri_of (by decide +kernel) rfl
theorem wi_429_57 : ri (rt_P sc fm) 429 57 (.laload) (58) := ri_of (by decide +kernel) rfl
theorem wi_429_58 : ri (rt_P sc fm) 429 58 (.putfield 697) (61) := ri_of (by decide +kernel) rfl
theorem wi_429_61 : ri (rt_P sc fm) 429 61 (.aload_n 0) (62) := ri_of (by decide +kernel) rfl
theorem wi_429_62 : ri (rt_P sc fm) 429 62 (.getfield 234) (65) := ri_of (by decide +kernel) rfl
theorem wi_429_65 : ri (rt_P sc fm) 429 65 (.iload 6) (67) := ri_of (by decide +kernel) rfl
theorem wi_429_67 : ri (rt_P sc fm) 429 67 (.iaload) (68) := ri_of (by decide +kernel) rfl
theorem wi_429_68 : ri (rt_P sc fm) 429 68 (.aload_n 0) (69) := ri_of (by decide +kernel) rfl
theorem wi_429_69 : ri (rt_P sc fm) 429 69 (.getfield 128) (72) := ri_of (by decide +kernel) rfl
theorem wi_429_7 : ri (rt_P sc fm) 429 7 (.iconst 0) (8) := ri_of (by decide +kernel) rfl
theorem wi_429_72 : ri (rt_P sc fm) 429 72 (.iload 4) (74) := ri_of (by decide +kernel) rfl
theorem wi_429_74 : ri (rt_P sc fm) 429 74 (.baload) (75) := ri_of (by decide +kernel) rfl
theorem wi_429_75 : ri (rt_P sc fm) 429 75 (.ifCond .eq 7) (78) := ri_of (by decide +kernel) rfl
theorem wi_429_78 : ri (rt_P sc fm) 429 78 (.iconst 2) (79) := ri_of (by decide +kernel) rfl
theorem wi_429_79 : ri (rt_P sc fm) 429 79 (.goto 4) (82) := ri_of (by decide +kernel) rfl
theorem wi_429_8 : ri (rt_P sc fm) 429 8 (.istore 5) (10) := ri_of (by decide +kernel) rfl
theorem wi_429_82 : ri (rt_P sc fm) 429 82 (.iconst 1) (83) := ri_of (by decide +kernel) rfl
theorem wi_429_83 : ri (rt_P sc fm) 429 83 (.if_icmp .ne 13) (86) := ri_of (by decide +kernel) rfl
theorem wi_429_86 : ri (rt_P sc fm) 429 86 (.aload_n 0) (87) := ri_of (by decide +kernel) rfl
theorem wi_429_87 : ri (rt_P sc fm) 429 87 (.getfield 234) (90) := ri_of (by decide +kernel) rfl
theorem wi_429_90 : ri (rt_P sc fm) 429 90 (.iload 6) (92) := ri_of (by decide +kernel) rfl
theorem wi_429_92 : ri (rt_P sc fm) 429 92 (.iaload) (93) := ri_of (by decide +kernel) rfl
theorem wi_429_93 : ri (rt_P sc fm) 429 93 (.goto 5) (96) := ri_of (by decide +kernel) rfl
theorem wi_429_96 : ri (rt_P sc fm) 429 96 (.bipush (-2)) (98) := ri_of (by decide +kernel) rfl
theorem wi_429_98 : ri (rt_P sc fm) 429 98 (.ireturn) (99) := ri_of (by decide +kernel) rfl
theorem wi_429_99 : ri (rt_P sc fm) 429 99 (.iinc 5 1) (102) := ri_of (by decide +kernel) rfl
theorem wp_429_697 : rx_pt (rt_P sc fm) 429 697 = some (15, 79, .long) := (by decide +kernel : rt_pt 429 697 = some (15, 79, .long))
theorem wr_429 : rx_rt (rt_P sc fm) 429 = (some FieldType.int) := (by decide +kernel : rt_rt 429 = (some FieldType.int))
/-- MarkHouseModel.member(III)I -/
def d_429 (n : Nat) (a1 : Int32) (a2 : Int32) (a3 : Int32) (c : cS) : Option (Int32 × cS) :=
  lt (((4 * a2) + a3) : Int32) (fun v2 =>
  Option.bind (whl (R := (Unit) ⊕ (Int32)) (fun s5 : Int32 =>
    if ib a1 24380 then
    if (c.1 225 (ix a1)) ≤ s5 then
      some (.inr (.inl ()))
    else
      lt (((a1 * 4) + s5) : Int32) (fun v8 =>
      if ib v8 97520 then
      if ib v2 48 then
      if (lg_cmp (c.2 226 (ix v8)) (c.2 191 (ix v2))) = 0 then
        some (.inr (.inr v8))
      else
        lt (s5 + 1 : Int32) (fun v13 =>
        some (.inl v13))
      else none
      else none)
    else none) n 0)
  (Sum.elim (fun x15 : Unit =>
    if ib v2 48 then
    lt (pL c 174 79 (c.2 194 (ix v2))) (fun c17 =>
    if ib v2 48 then
    jn (fun p20 : Int32 =>
      some (p20, c17))
    (fun j146 =>
    if (c17.1 193 (ix v2)) = 0 then
      j146 (-3)
    else
      if ib v2 48 then
      if (c17.1 192 (ix v2)) = 0 then
        j146 1
      else
        j146 2
      else none)
    else none)
    else none)
  (fun x22 : Int32 =>
    if ib x22 97520 then
    lt (pL c 174 79 (c.2 228 (ix x22))) (fun c24 =>
    if ib x22 97520 then
    if ib v2 48 then
    jn (fun p28 : Int32 =>
      jn (fun p29 : Int32 =>
        some (p29, c24))
      (fun j98 =>
      if (c24.1 227 (ix x22)) = p28 then
        if ib x22 97520 then
        j98 (c24.1 227 (ix x22))
        else none
      else
        j98 (-2)))
    (fun j83 =>
    if (c24.1 192 (ix v2)) = 0 then
      j83 1
    else
      j83 2)
    else none
    else none)
    else none)))
set_option maxRecDepth 100000 in
set_option maxHeartbeats 4000000 in
theorem sp_429 {F Lo n : Nat} {a1 : Int32} {a2 : Int32} {a3 : Int32} {c y : cS} {w : cW} {K : Int32 × cS → Prop} {Q : ((Option Value) ⊕ String) → List va_E → Prop} (hw : rOK fm w) (hF : 0 ≤ F) (hLo : 0 ≤ Lo)  (h : wp (d_429 n a1 a2 a3 c) K) (hQ : ∀ r, K r → Q (.inl (some (.int r.1))) (hq false r.2 y w)) : rs (rt_P sc fm) 429 F Lo 0 [(0, .ref 174), (1, .int a1), (2, .int a2), (3, .int a3)] [] (hq false c y w) Q := by
  unfold d_429 at h
  obtain ⟨lv, elv⟩ : ∃ lv : rx_L, lv = [(0, .ref 174), (1, .int a1), (2, .int a2), (3, .int a3)] := ⟨_, rfl⟩
  rw [← elv]
  have l0 : rx_ld lv 0 = some (.ref 174) := by rw [elv]; rfl
  have l1 : rx_ld lv 1 = some (.int a1) := by rw [elv]; rfl
  have l2 : rx_ld lv 2 = some (.int a2) := by rw [elv]; rfl
  have l3 : rx_ld lv 3 = some (.int a3) := by rw [elv]; rfl
  refine rs_pure wi_429_0 rfl ?_
  refine rs_topi (v := 4) (by decide) ?_
  refine rs_ildn wi_429_1 l2 ?_
  refine rs_pure wi_429_2 rfl ?_
  refine rs_ildn wi_429_3 l3 ?_
  refine rs_pure wi_429_4 rfl ?_
  obtain ⟨v2, e3, h⟩ := wp_lt h
  refine rs_topi e3 ?_
  refine dl_ist wi_429_5 rfl (fun lv l4 t1 => ?_)
  have l0 := t1 _ _ (by decide) (Or.inl rfl) l0
  have l1 := t1 _ _ (by decide) (Or.inl rfl) l1
  refine rs_pure wi_429_7 rfl ?_
  refine rs_topi (v := 0) (by decide) ?_
  refine dl_ist wi_429_8 rfl (fun lv l5 t4 => ?_)
  have l0 := t4 _ _ (by decide) (Or.inl rfl) l0
  have l1 := t4 _ _ (by decide) (Or.inl rfl) l1
  have l4 := t4 _ _ (by decide) (Or.inl rfl) l4
  refine whl_ex (A := fun s5 : Int32 => ∀ lv, rx_ld lv 0 = some (.ref 174) → rx_ld lv 1 = some (.int a1) → rx_ld lv 4 = some (.int v2) → rx_ld lv 5 = some (.int s5) → rs (rt_P sc fm) 429 F Lo 10 lv [] (hq false c y w) Q) (B := (Sum.elim (fun x15 : Unit => ∀ lv, rx_ld lv 0 = some (.ref 174) → rx_ld lv 4 = some (.int v2) → rs (rt_P sc fm) 429 F Lo 105 lv [] (hq false c y w) Q) (fun x22 : Int32 => ∀ lv, rx_ld lv 0 = some (.ref 174) → rx_ld lv 4 = some (.int v2) → rx_ld lv 6 = some (.int x22) → rs (rt_P sc fm) 429 F Lo 50 lv [] (hq false c y w) Q))) ?_ ?_ _ _ (wp_bind h) _ l0 l1 l4 l5
  · intro s5 h lv l0 l1 l4 l5
    refine rs_ild wi_429_10 l5 ?_
    refine rs_aldn wi_429_12 l0 ?_
    refine dq_gr wi_429_13 wf_429_227 tf_174_63 ?_
    refine rs_ildn wi_429_16 l1 ?_
    obtain ⟨g6, h⟩ := wp_gd h
    refine dq_iald wi_429_17 t_225 g6 ?_
    refine rs_icge (tg := 105) wi_429_18 ⟨by decide, by decide⟩ (fun q => ?_) (fun q => ?_)
    ·
      have h := wp_pos h q
      exact h _ l0 l4
    ·
      have h := wp_neg h q
      refine rs_ildn wi_429_21 l1 ?_
      refine rs_pure wi_429_22 rfl ?_
      refine rs_topi (v := 4) (by decide) ?_
      refine rs_pure wi_429_23 rfl ?_
      refine rs_ild wi_429_24 l5 ?_
      refine rs_pure wi_429_26 rfl ?_
      obtain ⟨v8, e9, h⟩ := wp_lt h
      refine rs_topi e9 ?_
      refine dl_ist wi_429_27 rfl (fun lv l6 t7 => ?_)
      have l0 := t7 _ _ (by decide) (Or.inl rfl) l0
      have l1 := t7 _ _ (by decide) (Or.inl rfl) l1
      have l4 := t7 _ _ (by decide) (Or.inl rfl) l4
      have l5 := t7 _ _ (by decide) (Or.inl rfl) l5
      refine rs_aldn wi_429_29 l0 ?_
      refine dq_gr wi_429_30 wf_429_231 tf_174_64 ?_
      refine rs_ild wi_429_33 l6 ?_
      obtain ⟨g10, h⟩ := wp_gd h
      refine dq_lald wi_429_35 t_226 g10 ?_
      refine rs_aldn wi_429_36 l0 ?_
      refine dq_gr wi_429_37 wf_429_125 tf_174_27 ?_
      refine rs_ild wi_429_40 l4 ?_
      obtain ⟨g11, h⟩ := wp_gd h
      refine dq_lald wi_429_42 t_191 g11 ?_
      refine rs_pure wi_429_43 rfl ?_
      refine rs_ifeq (tg := 50) wi_429_44 ⟨by decide, by decide⟩ (fun q => ?_) (fun q => ?_)
      ·
        have h := wp_pos h q
        exact h _ l0 l4 l6
      ·
        have h := wp_neg h q
        refine rs_goto (tg := 99) wi_429_47 ⟨by decide, by decide⟩ ?_
        obtain ⟨v13, e14, h⟩ := wp_lt h
        refine dl_inc wi_429_99 l5 rfl e14 (fun lv l5 t12 => ?_)
        have l0 := t12 _ _ (by decide) (Or.inl rfl) l0
        have l1 := t12 _ _ (by decide) (Or.inl rfl) l1
        have l4 := t12 _ _ (by decide) (Or.inl rfl) l4
        refine rs_goto (tg := 10) wi_429_102 ⟨by decide, by decide⟩ ?_
        exact h _ l0 l1 l4 l5
  ·
    refine sum_all ?_ ?_
    ·
      intro x15 h lv l0 l4
      have h := wp_inl h
      refine rs_aldn wi_429_105 l0 ?_
      refine rs_aldn wi_429_106 l0 ?_
      refine dq_gr wi_429_107 wf_429_134 tf_174_30 ?_
      refine rs_ild wi_429_110 l4 ?_
      obtain ⟨g16, h⟩ := wp_gd h
      refine dq_lald wi_429_112 t_194 g16 ?_
      obtain ⟨c17, e18, h⟩ := wp_lt h
      refine dq_pl wi_429_113 wp_429_697 tf_174_79 rfl rfl e18 ?_
      refine rs_aldn wi_429_116 l0 ?_
      refine dq_gr wi_429_117 wf_429_131 tf_174_29 ?_
      refine rs_ild wi_429_120 l4 ?_
      obtain ⟨g19, h⟩ := wp_gd h
      refine dq_zald wi_429_122 t_193 g19 ?_
      refine wp_jn (B := fun p20 : Int32 => ∀ lv, rs (rt_P sc fm) 429 F Lo 146 lv [.int p20] (hq false c17 y w) Q) h (fun p20 h lv => ?_) (fun j146 hj146 h => ?_)
      ·
        exact rs_iret wi_429_146 wr_429 rfl (hQ (p20, c17) h)
      refine rs_ifne (tg := 131) wi_429_123 ⟨by decide, by decide⟩ (fun q => ?_) (fun q => ?_)
      ·
        have h := wp_neg h q
        refine rs_aldn wi_429_131 l0 ?_
        refine dq_gr wi_429_132 wf_429_128 tf_174_28 ?_
        refine rs_ild wi_429_135 l4 ?_
        obtain ⟨g21, h⟩ := wp_gd h
        refine dq_zald wi_429_137 t_192 g21 ?_
        refine rs_ifeq (tg := 145) wi_429_138 ⟨by decide, by decide⟩ (fun q => ?_) (fun q => ?_)
        ·
          have h := wp_pos h q
          refine rs_pure wi_429_145 rfl ?_
          refine rs_topi (v := 1) (by decide) ?_
          exact hj146 _ h _
        ·
          have h := wp_neg h q
          refine rs_pure wi_429_141 rfl ?_
          refine rs_topi (v := 2) (by decide) ?_
          refine rs_goto (tg := 146) wi_429_142 ⟨by decide, by decide⟩ ?_
          exact hj146 _ h _
      ·
        have h := wp_pos h q
        refine rs_pure wi_429_126 rfl ?_
        refine rs_topi (v := (-3)) (by decide) ?_
        refine rs_goto (tg := 146) wi_429_128 ⟨by decide, by decide⟩ ?_
        exact hj146 _ h _
    ·
      intro x22 h lv l0 l4 l6
      have h := wp_inr h
      refine rs_aldn wi_429_50 l0 ?_
      refine rs_aldn wi_429_51 l0 ?_
      refine dq_gr wi_429_52 wf_429_237 tf_174_66 ?_
      refine rs_ild wi_429_55 l6 ?_
      obtain ⟨g23, h⟩ := wp_gd h
      refine dq_lald wi_429_57 t_228 g23 ?_
      obtain ⟨c24, e25, h⟩ := wp_lt h
      refine dq_pl wi_429_58 wp_429_697 tf_174_79 rfl rfl e25 ?_
      refine rs_aldn wi_429_61 l0 ?_
      refine dq_gr wi_429_62 wf_429_234 tf_174_65 ?_
      refine rs_ild wi_429_65 l6 ?_
      obtain ⟨g26, h⟩ := wp_gd h
      refine dq_iald wi_429_67 t_227 g26 ?_
      refine rs_aldn wi_429_68 l0 ?_
      refine dq_gr wi_429_69 wf_429_128 tf_174_28 ?_
      refine rs_ild wi_429_72 l4 ?_
      obtain ⟨g27, h⟩ := wp_gd h
      refine dq_zald wi_429_74 t_192 g27 ?_
      refine wp_jn (B := fun p28 : Int32 => ∀ lv, rx_ld lv 0 = some (.ref 174) → rx_ld lv 6 = some (.int x22) → rs (rt_P sc fm) 429 F Lo 83 lv [.int p28, .int (c24.1 227 (ix x22))] (hq false c24 y w) Q) h (fun p28 h lv l0 l6 => ?_) (fun j83 hj83 h => ?_)
      ·
        refine wp_jn (B := fun p29 : Int32 => ∀ lv, rs (rt_P sc fm) 429 F Lo 98 lv [.int p29] (hq false c24 y w) Q) h (fun p29 h lv => ?_) (fun j98 hj98 h => ?_)
        ·
          exact rs_iret wi_429_98 wr_429 rfl (hQ (p29, c24) h)
        refine rs_icne (tg := 96) wi_429_83 ⟨by decide, by decide⟩ (fun q => ?_) (fun q => ?_)
        ·
          have h := wp_neg h q
          refine rs_pure wi_429_96 rfl ?_
          refine rs_topi (v := (-2)) (by decide) ?_
          exact hj98 _ h _
        ·
          have h := wp_pos h q
          refine rs_aldn wi_429_86 l0 ?_
          refine dq_gr wi_429_87 wf_429_234 tf_174_65 ?_
          refine rs_ild wi_429_90 l6 ?_
          obtain ⟨g30, h⟩ := wp_gd h
          refine dq_iald wi_429_92 t_227 g30 ?_
          refine rs_goto (tg := 98) wi_429_93 ⟨by decide, by decide⟩ ?_
          exact hj98 _ h _
      refine rs_ifeq (tg := 82) wi_429_75 ⟨by decide, by decide⟩ (fun q => ?_) (fun q => ?_)
      ·
        have h := wp_pos h q
        refine rs_pure wi_429_82 rfl ?_
        refine rs_topi (v := 1) (by decide) ?_
        exact hj83 _ h _ l0 l6
      ·
        have h := wp_neg h q
        refine rs_pure wi_429_78 rfl ?_
        refine rs_topi (v := 2) (by decide) ?_
        refine rs_goto (tg := 83) wi_429_79 ⟨by decide, by decide⟩ ?_
        exact hj83 _ h _ l0 l6
theorem wa_15_429 : rz_cn 15 (rx_yn (rt_P sc fm) 429).cls = true := (by decide +kernel : rz_cn 15 (rt_yn 429).cls = true)
theorem wa_15_431 : rz_cn 15 (rx_yn (rt_P sc fm) 431).cls = true := (by decide +kernel : rz_cn 15 (rt_yn 431).cls = true)
theorem wc_432_703 : rx_ct (rt_P sc fm) 432 703 = some (0, 431, 2) := (by decide +kernel : rt_ct 432 703 = some (0, 431, 2))
theorem wc_432_706 : rx_ct (rt_P sc fm) 432 706 = some (0, 429, 3) := (by decide +kernel : rt_ct 432 706 = some (0, 429, 3))
theorem wf_432_122 : rx_ft (rt_P sc fm) 432 122 = some (15, 26) := (by decide +kernel : rt_ft 432 122 = some (15, 26))
theorem wf_432_697 : rx_ft (rt_P sc fm) 432 697 = some (15, 79) := (by decide +kernel : rt_ft 432 697 = some (15, 79))
theorem wi_432_0 : ri (rt_P sc fm) 432 0 (.iload_n 3) (1) := ri_of (by decide +kernel) rfl
theorem wi_432_1 : ri (rt_P sc fm) 432 1 (.bipush 100) (3) := ri_of (by decide +kernel) rfl
theorem wi_432_100 : ri (rt_P sc fm) 432 100 (.ifCond .ne 7) (103) := ri_of (by decide +kernel) rfl
theorem wi_432_103 : ri (rt_P sc fm) 432 103 (.iconst 1) (104) := ri_of (by decide +kernel) rfl
theorem wi_432_104 : ri (rt_P sc fm) 432 104 (.goto 4) (107) := ri_of (by decide +kernel) rfl
theorem wi_432_107 : ri (rt_P sc fm) 432 107 (.iconst 0) (108) := ri_of (by decide +kernel) rfl
theorem wi_432_108 : ri (rt_P sc fm) 432 108 (.istore 4) (110) := ri_of (by decide +kernel) rfl
theorem wi_432_11 : ri (rt_P sc fm) 432 11 (.isub) (12) := ri_of (by decide +kernel) rfl
theorem wi_432_110 : ri (rt_P sc fm) 432 110 (.iinc 5 1) (113) := ri_of (by decide +kernel) rfl
theorem wi_432_113 : ri (rt_P sc fm) 432 113 (.goto (-74)) (116) := ri_of (by decide +kernel) rfl
theorem wi_432_116 : ri (rt_P sc fm) 432 116 (.iload 4) (118) := ri_of (by decide +kernel) rfl
theorem wi_432_118 : ri (rt_P sc fm) 432 118 (.ireturn) (119) := ri_of (by decide +kernel) rfl
theorem wi_432_12 : ri (rt_P sc fm) 432 12 (.invokevirtual 703) (15) := ri_of (by decide +kernel) rfl
theorem wi_432_15 : ri (rt_P sc fm) 432 15 (.aload_n 0) (16) := ri_of (by decide +kernel) rfl
theorem wi_432_16 : ri (rt_P sc fm) 432 16 (.iload_n 2) (17) := ri_of (by decide +kernel) rfl
theorem wi_432_17 : ri (rt_P sc fm) 432 17 (.iload_n 3) (18) := ri_of (by decide +kernel) rfl
theorem wi_432_18 : ri (rt_P sc fm) 432 18 (.bipush 100) (20) := ri_of (by decide +kernel) rfl
theorem wi_432_20 : ri (rt_P sc fm) 432 20 (.isub) (21) := ri_of (by decide +kernel) rfl
theorem wi_432_21 : ri (rt_P sc fm) 432 21 (.invokevirtual 703) (24) := ri_of (by decide +kernel) rfl
theorem wi_432_24 : ri (rt_P sc fm) 432 24 (.if_icmp .ne 7) (27) := ri_of (by decide +kernel) rfl
theorem wi_432_27 : ri (rt_P sc fm) 432 27 (.iconst 1) (28) := ri_of (by decide +kernel) rfl
theorem wi_432_28 : ri (rt_P sc fm) 432 28 (.goto 4) (31) := ri_of (by decide +kernel) rfl
theorem wi_432_3 : ri (rt_P sc fm) 432 3 (.if_icmp .lt 30) (6) := ri_of (by decide +kernel) rfl
theorem wi_432_31 : ri (rt_P sc fm) 432 31 (.iconst 0) (32) := ri_of (by decide +kernel) rfl
theorem wi_432_32 : ri (rt_P sc fm) 432 32 (.ireturn) (33) := ri_of (by decide +kernel) rfl
theorem wi_432_33 : ri (rt_P sc fm) 432 33 (.iconst 1) (34) := ri_of (by decide +kernel) rfl
theorem wi_432_34 : ri (rt_P sc fm) 432 34 (.istore 4) (36) := ri_of (by decide +kernel) rfl
theorem wi_432_36 : ri (rt_P sc fm) 432 36 (.iconst 0) (37) := ri_of (by decide +kernel) rfl
theorem wi_432_37 : ri (rt_P sc fm) 432 37 (.istore 5) (39) := ri_of (by decide +kernel) rfl
theorem wi_432_39 : ri (rt_P sc fm) 432 39 (.iload 5) (41) := ri_of (by decide +kernel) rfl
theorem wi_432_41 : ri (rt_P sc fm) 432 41 (.aload_n 0) (42) := ri_of (by decide +kernel) rfl
theorem wi_432_42 : ri (rt_P sc fm) 432 42 (.getfield 122) (45) := ri_of (by decide +kernel) rfl
theorem wi_432_45 : ri (rt_P sc fm) 432 45 (.iload_n 3) (46) := ri_of (by decide +kernel) rfl
theorem wi_432_46 : ri (rt_P sc fm) 432 46 (.iaload) (47) := ri_of (by decide +kernel) rfl
theorem wi_432_47 : ri (rt_P sc fm) 432 47 (.if_icmp .ge 69) (50) := ri_of (by decide +kernel) rfl
theorem wi_432_50 : ri (rt_P sc fm) 432 50 (.iload 4) (52) := ri_of (by decide +kernel) rfl
theorem wi_432_52 : ri (rt_P sc fm) 432 52 (.ifCond .eq 64) (55) := ri_of (by decide +kernel) rfl
theorem wi_432_55 : ri (rt_P sc fm) 432 55 (.aload_n 0) (56) := ri_of (by decide +kernel) rfl
theorem wi_432_56 : ri (rt_P sc fm) 432 56 (.iload_n 1) (57) := ri_of (by decide +kernel) rfl
theorem wi_432_57 : ri (rt_P sc fm) 432 57 (.iload_n 3) (58) := ri_of (by decide +kernel) rfl
theorem wi_432_58 : ri (rt_P sc fm) 432 58 (.iload 5) (60) := ri_of (by decide +kernel) rfl
theorem wi_432_6 : ri (rt_P sc fm) 432 6 (.aload_n 0) (7) := ri_of (by decide +kernel) rfl
theorem wi_432_60 : ri (rt_P sc fm) 432 60 (.invokevirtual 706) (63) := ri_of (by decide +kernel) rfl
theorem wi_432_63 : ri (rt_P sc fm) 432 63 (.istore 6) (65) := ri_of (by decide +kernel) rfl
theorem wi_432_65 : ri (rt_P sc fm) 432 65 (.aload_n 0) (66) := ri_of (by decide +kernel) rfl
theorem wi_432_66 : ri (rt_P sc fm) 432 66 (.getfield 697) (69) := ri_of (by decide +kernel) rfl
theorem wi_432_69 : ri (rt_P sc fm) 432 69 (.lstore 7) (71) := ri_of (by decide +kernel) rfl
theorem wi_432_7 : ri (rt_P sc fm) 432 7 (.iload_n 1) (8) := ri_of (by decide +kernel) rfl
theorem wi_432_71 : ri (rt_P sc fm) 432 71 (.aload_n 0) (72) := ri_of (by decide +kernel) rfl
theorem wi_432_72 : ri (rt_P sc fm) 432 72 (.iload_n 2) (73) := ri_of (by decide +kernel) rfl
theorem wi_432_73 : ri (rt_P sc fm) 432 73 (.iload_n 3) (74) := ri_of (by decide +kernel) rfl
theorem wi_432_74 : ri (rt_P sc fm) 432 74 (.iload 5) (76) := ri_of (by decide +kernel) rfl
theorem wi_432_76 : ri (rt_P sc fm) 432 76 (.invokevirtual 706) (79) := ri_of (by decide +kernel) rfl
theorem wi_432_79 : ri (rt_P sc fm) 432 79 (.istore 9) (81) := ri_of (by decide +kernel) rfl
theorem wi_432_8 : ri (rt_P sc fm) 432 8 (.iload_n 3) (9) := ri_of (by decide +kernel) rfl
theorem wi_432_81 : ri (rt_P sc fm) 432 81 (.iload 6) (83) := ri_of (by decide +kernel) rfl
theorem wi_432_83 : ri (rt_P sc fm) 432 83 (.iload 9) (85) := ri_of (by decide +kernel) rfl
theorem wi_432_85 : ri (rt_P sc fm) 432 85 (.if_icmp .ne 22) (88) := ri_of (by decide +kernel) rfl
theorem wi_432_88 : ri (rt_P sc fm) 432 88 (.iload 6) (90) := ri_of (by decide +kernel) rfl
theorem wi_432_9 : ri (rt_P sc fm) 432 9 (.bipush 100) (11) := ri_of (by decide +kernel) rfl
theorem wi_432_90 : ri (rt_P sc fm) 432 90 (.ifCond .lt 13) (93) := ri_of (by decide +kernel) rfl
theorem wi_432_93 : ri (rt_P sc fm) 432 93 (.lload 7) (95) := ri_of (by decide +kernel) rfl
theorem wi_432_95 : ri (rt_P sc fm) 432 95 (.aload_n 0) (96) := ri_of (by decide +kernel) rfl
theorem wi_432_96 : ri (rt_P sc fm) 432 96 (.getfield 697) (99) := ri_of (by decide +kernel) rfl
theorem wi_432_99 : ri (rt_P sc fm) 432 99 (.lcmp) (100) := ri_of (by decide +kernel) rfl
theorem wm_429 : rx_ml (rt_P sc fm) 429 = 7 := (by decide +kernel : rt_ml 429 = 7)
theorem wm_431 : rx_ml (rt_P sc fm) 431 = 4 := (by decide +kernel : rt_ml 431 = 4)
theorem wr_432 : rx_rt (rt_P sc fm) 432 = (some FieldType.boolean) := (by decide +kernel : rt_rt 432 = (some FieldType.boolean))
/-- MarkHouseModel.isSame(III)Z -/
def d_432 (n : Nat) (a1 : Int32) (a2 : Int32) (a3 : Int32) (c : cS) : Option (Int32 × cS) :=
  if a3 < 100 then
    Option.bind (whl (R := (Int32 × cS)) (fun s3 : Int32 × Int32 × cS =>
      if ib a3 12 then
      if (s3.2.2.1 190 (ix a3)) ≤ s3.2.1 then
        some (.inr (s3.1, s3.2.2))
      else
        if s3.1 = 0 then
          some (.inr (s3.1, s3.2.2))
        else
          Option.bind (d_429 n a1 a3 s3.2.1 s3.2.2) (fun r5 =>
          lt ((r5.2.2 174 79) : Int64) (fun v8 =>
          Option.bind (d_429 n a2 a3 s3.2.1 r5.2) (fun r10 =>
          jn (fun p12 : Int32 =>
            lt (s3.2.1 + 1 : Int32) (fun v15 =>
            some (.inl (p12, v15, r10.2))))
          (fun j108 =>
          jn (fun p17 : Unit =>
            j108 0)
          (fun j107 =>
          if r5.1 = r10.1 then
            jn (fun p18 : Unit =>
              j108 1)
            (fun j103 =>
            if r5.1 < 0 then
              j103 ()
            else
              if (lg_cmp v8 (r10.2.2 174 79)) = 0 then
                j103 ()
              else
                j107 ())
          else
            j107 ())))))
      else none) n (1, 0, c))
    (fun x19 : Int32 × cS =>
      if nb x19.1 then
      some (x19.1, x19.2)
      else none)
  else
    Option.bind (d_431 n a1 (a3 - 100) c) (fun v21 =>
    Option.bind (d_431 n a2 (a3 - 100) c) (fun v22 =>
    jn (fun p23 : Int32 =>
      if nb p23 then
      some (p23, c)
      else none)
    (fun j32 =>
    if v21 = v22 then
      j32 1
    else
      j32 0)))
set_option maxRecDepth 100000 in
set_option maxHeartbeats 4000000 in
theorem sp_432 {F Lo n : Nat} {a1 : Int32} {a2 : Int32} {a3 : Int32} {c y : cS} {w : cW} {K : Int32 × cS → Prop} {Q : ((Option Value) ⊕ String) → List va_E → Prop} (hw : rOK fm w) (hF : 3 ≤ F) (hLo : 72 ≤ Lo)  (h : wp (d_432 n a1 a2 a3 c) K) (hQ : ∀ r, K r → Q (.inl (some (.int r.1))) (hq false r.2 y w)) : rs (rt_P sc fm) 432 F Lo 0 [(0, .ref 174), (1, .int a1), (2, .int a2), (3, .int a3)] [] (hq false c y w) Q := by
  unfold d_432 at h
  obtain ⟨lv, elv⟩ : ∃ lv : rx_L, lv = [(0, .ref 174), (1, .int a1), (2, .int a2), (3, .int a3)] := ⟨_, rfl⟩
  rw [← elv]
  have l0 : rx_ld lv 0 = some (.ref 174) := by rw [elv]; rfl
  have l1 : rx_ld lv 1 = some (.int a1) := by rw [elv]; rfl
  have l2 : rx_ld lv 2 = some (.int a2) := by rw [elv]; rfl
  have l3 : rx_ld lv 3 = some (.int a3) := by rw [elv]; rfl
  refine rs_ildn wi_432_0 l3 ?_
  refine rs_pure wi_432_1 rfl ?_
  refine rs_topi (v := 100) (by decide) ?_
  refine rs_iclt (tg := 33) wi_432_3 ⟨by decide, by decide⟩ (fun q => ?_) (fun q => ?_)
  ·
    have h := wp_pos h q
    refine rs_pure wi_432_33 rfl ?_
    refine rs_topi (v := 1) (by decide) ?_
    refine dl_ist wi_432_34 rfl (fun lv l4 t1 => ?_)
    have l0 := t1 _ _ (by decide) (Or.inl rfl) l0
    have l1 := t1 _ _ (by decide) (Or.inl rfl) l1
    have l2 := t1 _ _ (by decide) (Or.inl rfl) l2
    have l3 := t1 _ _ (by decide) (Or.inl rfl) l3
    refine rs_pure wi_432_36 rfl ?_
    refine rs_topi (v := 0) (by decide) ?_
    refine dl_ist wi_432_37 rfl (fun lv l5 t2 => ?_)
    have l0 := t2 _ _ (by decide) (Or.inl rfl) l0
    have l1 := t2 _ _ (by decide) (Or.inl rfl) l1
    have l2 := t2 _ _ (by decide) (Or.inl rfl) l2
    have l3 := t2 _ _ (by decide) (Or.inl rfl) l3
    have l4 := t2 _ _ (by decide) (Or.inl rfl) l4
    refine whl_ex (A := fun s3 : Int32 × Int32 × cS => ∀ lv, rx_ld lv 0 = some (.ref 174) → rx_ld lv 1 = some (.int a1) → rx_ld lv 2 = some (.int a2) → rx_ld lv 3 = some (.int a3) → rx_ld lv 4 = some (.int s3.1) → rx_ld lv 5 = some (.int s3.2.1) → rs (rt_P sc fm) 432 F Lo 39 lv [] (hq false s3.2.2 y w) Q) (B := (fun x19 : Int32 × cS => ∀ lv, rx_ld lv 4 = some (.int x19.1) → rs (rt_P sc fm) 432 F Lo 116 lv [] (hq false x19.2 y w) Q)) ?_ ?_ _ _ (wp_bind h) _ l0 l1 l2 l3 l4 l5
    · intro s3 h lv l0 l1 l2 l3 l4 l5
      refine rs_ild wi_432_39 l5 ?_
      refine rs_aldn wi_432_41 l0 ?_
      refine dq_gr wi_432_42 wf_432_122 tf_174_26 ?_
      refine rs_ildn wi_432_45 l3 ?_
      obtain ⟨g4, h⟩ := wp_gd h
      refine dq_iald wi_432_46 t_190 g4 ?_
      refine rs_icge (tg := 116) wi_432_47 ⟨by decide, by decide⟩ (fun q => ?_) (fun q => ?_)
      ·
        have h := wp_pos h q
        exact h _ l4
      ·
        have h := wp_neg h q
        refine rs_ild wi_432_50 l4 ?_
        refine rs_ifeq (tg := 116) wi_432_52 ⟨by decide, by decide⟩ (fun q => ?_) (fun q => ?_)
        ·
          have h := wp_pos h q
          exact h _ l4
        ·
          have h := wp_neg h q
          refine rs_aldn wi_432_55 l0 ?_
          refine rs_ildn wi_432_56 l1 ?_
          refine rs_ildn wi_432_57 l3 ?_
          refine rs_ild wi_432_58 l5 ?_
          refine rs_V wi_432_60 wc_432_706 rfl (dq_isa tf_174_0 wa_15_429) (Nat.le_trans (by decide) hF) (ml_le wm_429 (Nat.le_trans (by decide) hLo)) rfl (sp_429 hw (Nat.le_trans (by decide : 0 ≤ 3 - 1) (Nat.sub_le_sub_right hF 1)) (ml_sub wm_429 (Nat.le_trans (by decide : 0 ≤ 72 - 26) (Nat.sub_le_sub_right hLo 26))) (wp_bind h) (fun r5 h => rs_back1 ?_))
          refine dl_ist wi_432_63 rfl (fun lv l6 t6 => ?_)
          have l0 := t6 _ _ (by decide) (Or.inl rfl) l0
          have l1 := t6 _ _ (by decide) (Or.inl rfl) l1
          have l2 := t6 _ _ (by decide) (Or.inl rfl) l2
          have l3 := t6 _ _ (by decide) (Or.inl rfl) l3
          have l5 := t6 _ _ (by decide) (Or.inl rfl) l5
          refine rs_aldn wi_432_65 l0 ?_
          refine dq_gl wi_432_66 wf_432_697 tf_174_79 ?_
          obtain ⟨v8, e9, h⟩ := wp_lt h
          refine rs_topl e9 ?_
          refine dl_lst wi_432_69 rfl (fun lv l7 t7 => ?_)
          have l0 := t7 _ _ (by decide) (by decide) (Or.inl rfl) l0
          have l1 := t7 _ _ (by decide) (by decide) (Or.inl rfl) l1
          have l2 := t7 _ _ (by decide) (by decide) (Or.inl rfl) l2
          have l3 := t7 _ _ (by decide) (by decide) (Or.inl rfl) l3
          have l5 := t7 _ _ (by decide) (by decide) (Or.inl rfl) l5
          have l6 := t7 _ _ (by decide) (by decide) (Or.inl rfl) l6
          refine rs_aldn wi_432_71 l0 ?_
          refine rs_ildn wi_432_72 l2 ?_
          refine rs_ildn wi_432_73 l3 ?_
          refine rs_ild wi_432_74 l5 ?_
          refine rs_V wi_432_76 wc_432_706 rfl (dq_isa tf_174_0 wa_15_429) (Nat.le_trans (by decide) hF) (ml_le wm_429 (Nat.le_trans (by decide) hLo)) rfl (sp_429 hw (Nat.le_trans (by decide : 0 ≤ 3 - 1) (Nat.sub_le_sub_right hF 1)) (ml_sub wm_429 (Nat.le_trans (by decide : 0 ≤ 72 - 26) (Nat.sub_le_sub_right hLo 26))) (wp_bind h) (fun r10 h => rs_back1 ?_))
          refine dl_ist wi_432_79 rfl (fun lv l9 t11 => ?_)
          have l0 := t11 _ _ (by decide) (Or.inl rfl) l0
          have l1 := t11 _ _ (by decide) (Or.inl rfl) l1
          have l2 := t11 _ _ (by decide) (Or.inl rfl) l2
          have l3 := t11 _ _ (by decide) (Or.inl rfl) l3
          have l5 := t11 _ _ (by decide) (Or.inl rfl) l5
          have l6 := t11 _ _ (by decide) (Or.inl rfl) l6
          have l7 := t11 _ _ (by decide) (Or.inr (by decide)) l7
          refine rs_ild wi_432_81 l6 ?_
          refine rs_ild wi_432_83 l9 ?_
          refine wp_jn (B := fun p12 : Int32 => ∀ lv, rx_ld lv 0 = some (.ref 174) → rx_ld lv 1 = some (.int a1) → rx_ld lv 2 = some (.int a2) → rx_ld lv 3 = some (.int a3) → rx_ld lv 5 = some (.int s3.2.1) → rs (rt_P sc fm) 432 F Lo 108 lv [.int p12] (hq false r10.2 y w) Q) h (fun p12 h lv l0 l1 l2 l3 l5 => ?_) (fun j108 hj108 h => ?_)
          ·
            refine dl_ist wi_432_108 rfl (fun lv l4 t13 => ?_)
            have l0 := t13 _ _ (by decide) (Or.inl rfl) l0
            have l1 := t13 _ _ (by decide) (Or.inl rfl) l1
            have l2 := t13 _ _ (by decide) (Or.inl rfl) l2
            have l3 := t13 _ _ (by decide) (Or.inl rfl) l3
            have l5 := t13 _ _ (by decide) (Or.inl rfl) l5
            obtain ⟨v15, e16, h⟩ := wp_lt h
            refine dl_inc wi_432_110 l5 rfl e16 (fun lv l5 t14 => ?_)
            have l0 := t14 _ _ (by decide) (Or.inl rfl) l0
            have l1 := t14 _ _ (by decide) (Or.inl rfl) l1
            have l2 := t14 _ _ (by decide) (Or.inl rfl) l2
            have l3 := t14 _ _ (by decide) (Or.inl rfl) l3
            have l4 := t14 _ _ (by decide) (Or.inl rfl) l4
            refine rs_goto (tg := 39) wi_432_113 ⟨by decide, by decide⟩ ?_
            exact h _ l0 l1 l2 l3 l4 l5
          refine wp_jn (B := fun p17 : Unit => ∀ lv, rx_ld lv 0 = some (.ref 174) → rx_ld lv 1 = some (.int a1) → rx_ld lv 2 = some (.int a2) → rx_ld lv 3 = some (.int a3) → rx_ld lv 5 = some (.int s3.2.1) → rs (rt_P sc fm) 432 F Lo 107 lv [] (hq false r10.2 y w) Q) h (fun p17 h lv l0 l1 l2 l3 l5 => ?_) (fun j107 hj107 h => ?_)
          ·
            refine rs_pure wi_432_107 rfl ?_
            refine rs_topi (v := 0) (by decide) ?_
            exact hj108 _ h _ l0 l1 l2 l3 l5
          refine rs_icne (tg := 107) wi_432_85 ⟨by decide, by decide⟩ (fun q => ?_) (fun q => ?_)
          ·
            have h := wp_neg h q
            exact hj107 _ h _ l0 l1 l2 l3 l5
          ·
            have h := wp_pos h q
            refine rs_ild wi_432_88 l6 ?_
            refine wp_jn (B := fun p18 : Unit => ∀ lv, rx_ld lv 0 = some (.ref 174) → rx_ld lv 1 = some (.int a1) → rx_ld lv 2 = some (.int a2) → rx_ld lv 3 = some (.int a3) → rx_ld lv 5 = some (.int s3.2.1) → rs (rt_P sc fm) 432 F Lo 103 lv [] (hq false r10.2 y w) Q) h (fun p18 h lv l0 l1 l2 l3 l5 => ?_) (fun j103 hj103 h => ?_)
            ·
              refine rs_pure wi_432_103 rfl ?_
              refine rs_topi (v := 1) (by decide) ?_
              refine rs_goto (tg := 108) wi_432_104 ⟨by decide, by decide⟩ ?_
              exact hj108 _ h _ l0 l1 l2 l3 l5
            refine rs_iflt (tg := 103) wi_432_90 ⟨by decide, by decide⟩ (fun q => ?_) (fun q => ?_)
            ·
              have h := wp_pos h q
              exact hj103 _ h _ l0 l1 l2 l3 l5
            ·
              have h := wp_neg h q
              refine rs_lld wi_432_93 l7 ?_
              refine rs_aldn wi_432_95 l0 ?_
              refine dq_gl wi_432_96 wf_432_697 tf_174_79 ?_
              refine rs_pure wi_432_99 rfl ?_
              refine rs_ifne (tg := 107) wi_432_100 ⟨by decide, by decide⟩ (fun q => ?_) (fun q => ?_)
              ·
                have h := wp_neg h q
                exact hj107 _ h _ l0 l1 l2 l3 l5
              ·
                have h := wp_pos h q
                exact hj103 _ h _ l0 l1 l2 l3 l5
    ·
      intro x19 h lv l4
      refine rs_ild wi_432_116 l4 ?_
      obtain ⟨g20, h⟩ := wp_gd h
      exact rs_iret wi_432_118 wr_432 (nb_n g20) (hQ (x19.1, x19.2) h)
  ·
    have h := wp_neg h q
    refine rs_aldn wi_432_6 l0 ?_
    refine rs_ildn wi_432_7 l1 ?_
    refine rs_ildn wi_432_8 l3 ?_
    refine rs_pure wi_432_9 rfl ?_
    refine rs_topi (v := 100) (by decide) ?_
    refine rs_pure wi_432_11 rfl ?_
    refine rs_V wi_432_12 wc_432_703 rfl (dq_isa tf_174_0 wa_15_431) (Nat.le_trans (by decide) hF) (ml_le wm_431 (Nat.le_trans (by decide) hLo)) rfl (sp_431 hw (Nat.le_trans (by decide : 2 ≤ 3 - 1) (Nat.sub_le_sub_right hF 1)) (ml_sub wm_431 (Nat.le_trans (by decide : 49 ≤ 72 - 23) (Nat.sub_le_sub_right hLo 23))) (wp_bind h) (fun v21 h => rs_back1 ?_))
    refine rs_aldn wi_432_15 l0 ?_
    refine rs_ildn wi_432_16 l2 ?_
    refine rs_ildn wi_432_17 l3 ?_
    refine rs_pure wi_432_18 rfl ?_
    refine rs_topi (v := 100) (by decide) ?_
    refine rs_pure wi_432_20 rfl ?_
    refine rs_V wi_432_21 wc_432_703 rfl (dq_isa tf_174_0 wa_15_431) (Nat.le_trans (by decide) hF) (ml_le wm_431 (Nat.le_trans (by decide) hLo)) rfl (sp_431 hw (Nat.le_trans (by decide : 2 ≤ 3 - 1) (Nat.sub_le_sub_right hF 1)) (ml_sub wm_431 (Nat.le_trans (by decide : 49 ≤ 72 - 23) (Nat.sub_le_sub_right hLo 23))) (wp_bind h) (fun v22 h => rs_back1 ?_))
    refine wp_jn (B := fun p23 : Int32 => ∀ lv, rs (rt_P sc fm) 432 F Lo 32 lv [.int p23] (hq false c y w) Q) h (fun p23 h lv => ?_) (fun j32 hj32 h => ?_)
    ·
      obtain ⟨g24, h⟩ := wp_gd h
      exact rs_iret wi_432_32 wr_432 (nb_n g24) (hQ (p23, c) h)
    refine rs_icne (tg := 31) wi_432_24 ⟨by decide, by decide⟩ (fun q => ?_) (fun q => ?_)
    ·
      have h := wp_neg h q
      refine rs_pure wi_432_31 rfl ?_
      refine rs_topi (v := 0) (by decide) ?_
      exact hj32 _ h _
    ·
      have h := wp_pos h q
      refine rs_pure wi_432_27 rfl ?_
      refine rs_topi (v := 1) (by decide) ?_
      refine rs_goto (tg := 32) wi_432_28 ⟨by decide, by decide⟩ ?_
      exact hj32 _ h _
end D55
